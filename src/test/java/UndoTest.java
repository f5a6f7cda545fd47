/** Promises 16 to 18 and 47: undo and slots, and what counts as undoable. */
public final class UndoTest {
    public static void main(String[] arguments) {
        whatIsUndoable();
        whatIsNotUndoable();
        sixStates();
        allOfTheState();
        twoPasts();
        slots();
        slotsAndUndo();
        throwingCallsChangeNothing();
        Check.end("UndoTest");
    }

    private static void undone(String call, CommitWaitStore x, Check.CallOn undoable) {
        int saved = x.savedStates();
        String before = Check.stateOf(x);
        undoable.answer(x);
        Check.due("savedStates() after " + call, x.savedStates(), saved + 1);
        Check.due("undo() of " + call, x.undo(), saved);
        Check.due("the store after the undo of " + call, Check.stateOf(x), before);
    }

    private static CommitWaitStore withTransaction() {
        CommitWaitStore x = new CommitWaitStore();
        Check.writer(x, 0, 3, 3);
        x.read(0, 4);
        return x;
    }

    /** A store with an open, a waiting, a committed and an aborted transaction, made by two calls. */
    private static CommitWaitStore busyStore() {
        CommitWaitStore x = new CommitWaitStore();
        Check.append(x, "b0;w0,0,1;r0,1;c0;t40;b1;r1,0;b1;w2,0,5;c2;b2;w3,2,7;a3;s0,4");
        Check.due("runText()", x.runText(), 14);
        x.snapshotRead(0, 20);
        return x;
    }

    private static void whatIsUndoable() {
        undone("begin", new CommitWaitStore(), x -> x.begin(0));
        undone("advance", busyStore(), x -> x.advance(17));
        undone("synchronize", busyStore(), x -> x.synchronize(1, 30));
        undone("synchronize that changes nothing", new CommitWaitStore(), x -> x.synchronize(1, 0));
        undone("setDrift", busyStore(), x -> x.setDrift(1, 30));
        undone("setDrift that changes nothing", new CommitWaitStore(), x -> x.setDrift(1, 0));
        undone("setUncertainty", busyStore(), x -> x.setUncertainty(2, 30, 9));
        undone("setUncertainty that changes nothing", new CommitWaitStore(), x -> x.setUncertainty(2, 5, 2));
        undone("snapshotRead", new CommitWaitStore(), x -> x.snapshotRead(2, 3));
        undone("snapshotRead that changes nothing", new CommitWaitStore(), x -> x.snapshotRead(2, 0));
        undone("runText", busyStore(), x -> x.runText());
        undone("read", withTransaction(), x -> x.read(0, 5));
        undone("read of the recorded version", withTransaction(), x -> x.read(0, 4));
        undone("read of the buffered value", withTransaction(), x -> x.read(0, 3));
        undone("write", withTransaction(), x -> x.write(0, 5, 5));
        undone("write that changes nothing", withTransaction(), x -> x.write(0, 3, 3));
        undone("commit", withTransaction(), x -> x.commit(0));
        undone("abort", withTransaction(), x -> x.abort(0));
        CommitWaitStore conflicting = busyStore();
        conflicting.advance(100);
        undone("commit that conflicts", conflicting, x -> {
            int outcome = x.commit(1);
            Check.due("commit", outcome, CommitWaitStore.CONFLICT);
            return outcome;
        });
        CommitWaitStore empty = new CommitWaitStore();
        empty.save(1);
        undone("restore that changes nothing", empty, x -> x.restore(1));
        CommitWaitStore busy = busyStore();
        busy.save(1);
        busy.advance(100);
        undone("restore", busy, x -> x.restore(1));
    }

    private static void whatIsNotUndoable() {
        CommitWaitStore x = new CommitWaitStore();
        int waiting = Check.writer(x, 0, 0, 1);
        int locked = Check.writer(x, 0, 0, 1);
        x.commit(waiting);
        Check.due("savedStates()", x.savedStates(), 5);
        Check.due("commit", x.commit(locked), CommitWaitStore.LOCKED);
        x.save(0);
        x.save(1);
        x.appendText('b');
        x.errorPosition();
        x.clearText();
        x.ifCommitted(locked);
        x.ticksToCommit(waiting);
        x.ticksUntilSafe(10);
        Check.due("savedStates()", x.savedStates(), 5);
    }

    private static void sixStates() {
        CommitWaitStore x = new CommitWaitStore();
        for (int i = 1; i <= 20; i++) {
            x.advance(i);
            Check.due("savedStates()", x.savedStates(), Math.min(i, 6));
        }
        int time = 210;
        for (int i = 20; i > 14; i--) {
            Check.due("undo()", x.undo(), i - 15);
            time -= i;
            Check.due("trueTime()", x.trueTime(), time);
        }
        Check.illegalState("undo() of a discarded state", x::undo);
        Check.due("trueTime()", x.trueTime(), 105);
        x.advance(5);
        Check.due("savedStates()", x.savedStates(), 1);
        Check.due("undo()", x.undo(), 0);
        Check.due("trueTime()", x.trueTime(), 105);
    }

    /** All that a state is made of comes back, from the saved states and from a slot. */
    private static void allOfTheState() {
        CommitWaitStore x = busyStore();
        x.undo();
        x.undo();
        Check.due("transactions()", x.transactions(), 0);
        x = busyStore();
        x.save(0);
        String busy = Check.stateOf(x);
        x.synchronize(0, 100);
        Check.due("commit with an unsound clock", x.commit(x.begin(0)) > 0, true);
        Check.due("unsoundUses()", x.unsoundUses(), 1);
        x.setUncertainty(1, 1, 1);
        x.advance(900);
        for (int i = 0; i < 5; i++) {
            x.undo();
        }
        Check.due("the store after five undos", Check.stateOf(x), busy);
        Check.due("begin", x.begin(2), 4);
        Check.due("a new transaction is open", x.state(4), CommitWaitStore.OPEN);
        Check.due("a new transaction has nothing of the undone one", x.timestamp(4), CommitWaitStore.NONE);
        Check.due("requestTime", x.requestTime(4), CommitWaitStore.NONE);
        Check.due("bufferedValue", x.bufferedValue(4, 0), CommitWaitStore.NONE);
        x.advance(900);
        x.restore(0);
        Check.due("the store after the restore", Check.stateOf(x), busy);
    }

    /** Two pasts with the same numbers of transactions and versions are not mixed up. */
    private static void twoPasts() {
        CommitWaitStore x = new CommitWaitStore();
        x.setUncertainty(1, 20, 0);
        x.commit(Check.writer(x, 0, 6, 60));
        x.advance(50);
        x.begin(2);
        x.save(0);
        for (int i = 0; i < 5; i++) {
            x.undo();
        }
        Check.due("transactions()", x.transactions(), 0);
        x.commit(Check.writer(x, 1, 6, 61));
        x.advance(60);
        x.begin(1);
        x.save(1);
        Check.due("valueAt", x.valueAt(6, 20), 61);
        Check.due("ifCommitted", x.ifCommitted(1), 80);
        x.restore(0);
        Check.due("versionTimestamp", x.versionTimestamp(6, 1), 5);
        Check.due("valueAt", x.valueAt(6, 20), 60);
        Check.due("ifCommitted", x.ifCommitted(1), 56);
        x.restore(1);
        Check.due("versionTimestamp", x.versionTimestamp(6, 1), 20);
        Check.due("valueAt", x.valueAt(6, 20), 61);
        Check.due("ifCommitted", x.ifCommitted(1), 80);
    }

    private static void slots() {
        CommitWaitStore x = new CommitWaitStore();
        Check.illegalState("restore(0) of an empty slot", () -> x.restore(0));
        Check.illegalState("restore(1) of an empty slot", () -> x.restore(1));
        for (int slot : new int[] {-1, 2, 2147483647, -2147483648}) {
            Check.index("save", () -> x.save(slot));
            Check.index("restore", () -> x.restore(slot));
        }
        x.advance(10);
        Check.due("save(1)", x.save(1), 10);
        Check.illegalState("restore(0) of an empty slot", () -> x.restore(0));
        x.advance(10);
        Check.due("save(0)", x.save(0), 20);
        x.begin(0);
        Check.due("restore(1)", x.restore(1), 10);
        Check.due("transactions()", x.transactions(), 0);
        x.advance(5);
        Check.due("the slot keeps its copy", x.restore(1), 10);
        Check.due("restore(0)", x.restore(0), 20);
        x.advance(1);
        Check.due("save(0) replaces", x.save(0), 21);
        x.advance(1);
        Check.due("restore(0)", x.restore(0), 21);
    }

    private static void slotsAndUndo() {
        CommitWaitStore x = new CommitWaitStore();
        x.advance(10);
        x.save(0);
        x.advance(10);
        int saved = x.savedStates();
        Check.due("restore(0)", x.restore(0), 10);
        Check.due("a restore saves the state before it", x.savedStates(), saved + 1);
        Check.due("undo()", x.undo(), saved);
        Check.due("trueTime()", x.trueTime(), 20);
        Check.due("undo()", x.undo(), saved - 1);
        Check.due("trueTime()", x.trueTime(), 10);
        x.undo();
        Check.due("an undo leaves the slots", x.restore(0), 10);
        Check.due("an undo leaves the text", x.appendText('t'), 1);
        x.undo();
        Check.due("textLength()", x.textLength(), 1);
        x.restore(0);
        Check.due("a restore leaves the text", x.textLength(), 1);
    }

    private static void throwingCallsChangeNothing() {
        CommitWaitStore x = new CommitWaitStore();
        String before = Check.everything(x);
        Check.illegalState("undo()", x::undo);
        Check.illegalState("restore(0)", () -> x.restore(0));
        Check.index("restore(2)", () -> x.restore(2));
        Check.index("save(2)", () -> x.save(2));
        Check.due("the store after calls that throw", Check.everything(x), before);
    }
}
