/** Section 7: state, undo, slots. */
final class Section7 {
    private Section7() {
    }

    static void test(Sentences s) {
        s.at("Section 7");
        theState(s);
        theRest(s);
        undoable(s);
        refusedOrLocked(s);
        changingNothing(s);
        sixStates(s);
        slots(s);
    }

    /** The transaction 4 is open and has touched nothing yet. */
    private static CommitWaitStore busyWithOneMore() {
        CommitWaitStore x = Check.busyStore();
        x.begin(2);
        return x;
    }

    /** All eight keys get a version at the timestamp 5 + offset, by the server; then all of it is undone. */
    private static void savedPast(CommitWaitStore x, int slot, int server, int offset) {
        x.synchronize(server, offset);
        Check.due("runText()", x.runText(), 11);
        Check.due("commitTime", x.commitTime(0), 12);
        x.save(slot);
        x.undo();
        x.undo();
        Check.due("transactions()", x.transactions(), 0);
    }

    /** Two pasts that differ in nothing but numbers are not mixed up. */
    private static void twoPasts(CommitWaitStore x) {
        Check.append(x, "b0;w0,0,1;w0,1,2;w0,2,3;w0,3,4;w0,4,5;w0,5,6;w0,6,7;w0,7,8;c0;t12");
        savedPast(x, 0, 0, 0);
        x.clearText();
        Check.append(x, "b1;w0,0,9;w0,1,8;w0,2,7;w0,3,6;w0,4,5;w0,5,4;w0,6,3;w0,7,2;c0;t12");
        savedPast(x, 1, 1, 50);
        for (int slot = 1; slot >= 0; slot--) {
            x.restore(slot);
            for (int key = 0; key < 8; key++) {
                Check.due("versionTimestamp", x.versionTimestamp(key, 1), 5 + 50 * slot);
                Check.due("valueAt", x.valueAt(key, 100), slot == 0 ? 1 + key : 9 - key);
                Check.due("bufferedValue", x.bufferedValue(0, key), slot == 0 ? 1 + key : 9 - key);
            }
            x.begin(2);
            x.undo();
            Check.due("timestamp", x.timestamp(0), 5 + 50 * slot);
            Check.due("valueAt after undo()", x.valueAt(7, 100), slot == 0 ? 8 : 2);
        }
    }

    /** A change that is taken back, by undo() or from a slot, leaves nothing behind for the time to come. */
    private static void takenBack(String change, Check.CallOn call) {
        CommitWaitStore plain = busyWithOneMore();
        plain.advance(777);
        String due = Check.stateOf(plain);
        CommitWaitStore undone = busyWithOneMore();
        call.answer(undone);
        undone.undo();
        undone.advance(777);
        Check.due("the store after the undo of " + change, Check.stateOf(undone), due);
        CommitWaitStore restored = busyWithOneMore();
        restored.save(1);
        call.answer(restored);
        restored.restore(1);
        restored.advance(777);
        Check.due("the store restored after " + change, Check.stateOf(restored), due);
    }

    private static void theState(Sentences s) {
        s.says("The state consists of everything in sections 1 to 5: the true time,", x ->
                takenBack("advance", y -> y.advance(1000)));
        s.says("the clocks,", x -> {
            for (int server = 0; server < 3; server++) {
                int its = server;
                takenBack("synchronize", y -> y.synchronize(its, -300));
                takenBack("setDrift", y -> y.setDrift(its, 100));
                takenBack("setUncertainty, base", y -> y.setUncertainty(its, 6, 2));
                takenBack("setUncertainty, growth", y -> y.setUncertainty(its, 5, 3));
            }
            // Only the synchronization time and the offset time would be other ones.
            x.setDrift(2, 7);
            x.advance(499);
            x.synchronize(2, 3);
            x.undo();
            x.advance(1);
            Check.due("reading(2)", x.reading(2), 503);
            Check.due("latest(2)", x.latest(2), 509);
        });
        s.says("the versions,", x -> {
            takenBack("a commit with versions", y -> y.advance(20));
            int t = x.begin(0);
            for (int key = 0; key < 8; key++) {
                x.write(t, key, key + 1);
            }
            x.commit(t);
            x.advance(12);
            x.undo();
            for (int key = 0; key < 8; key++) {
                Check.due("versions, key " + key, x.versions(key), 1);
                Check.due("valueAt, key " + key, x.valueAt(key, Check.MOST), 0);
            }
        });
        s.says("the versions,", Section7::twoPasts);
        s.says("the transactions with all that is known of them,", x -> {
            takenBack("begin", y -> y.begin(2));
            takenBack("write", y -> y.write(1, 7, 9));
            takenBack("write of a buffered key", y -> y.write(1, 7, 8));
            takenBack("read", y -> y.read(1, 7));
            takenBack("commit", y -> y.commit(4));
            takenBack("commit after other commands", y -> Check.executed(y, "b1;r5,7;w5,6,6;c5;t20"));
            takenBack("abort", y -> y.abort(1));
        });
        s.says("the transactions with all that is known of them,", x -> {
            // The same number, another server and another read key in each of three pasts.
            for (int server = 0; server < 3; server++) {
                x.synchronize(server, 100 * server);
            }
            x.read(x.begin(0), 0);
            x.save(0);
            x.undo();
            x.undo();
            x.read(x.begin(1), 1);
            x.save(1);
            x.undo();
            x.undo();
            x.read(x.begin(2), 2);
            x.restore(0);
            Check.due("ifCommitted at the server 0", x.ifCommitted(0), 5);
            Check.due("recordedTimestamp", x.recordedTimestamp(0, 0), 0);
            Check.due("recordedTimestamp", x.recordedTimestamp(0, 2), CommitWaitStore.NONE);
            x.restore(1);
            Check.due("ifCommitted at the server 1", x.ifCommitted(0), 105);
            Check.due("recordedTimestamp", x.recordedTimestamp(0, 1), 0);
            Check.due("recordedTimestamp", x.recordedTimestamp(0, 0), CommitWaitStore.NONE);
            x.undo();
            x.undo();
            Check.due("ifCommitted at the server 2", x.ifCommitted(0), 205);
            Check.due("recordedTimestamp", x.recordedTimestamp(0, 2), 0);
        });
        s.says("the read floor,", x -> {
            takenBack("snapshotRead", y -> y.snapshotRead(0, 40));
            x.snapshotRead(0, 4);
            x.undo();
            Check.due("readFloor()", x.readFloor(), 0);
        });
        s.says("and the counts that are computed from the past.", x -> {
            x.synchronize(0, 400);
            x.commit(x.begin(0));
            x.advance(20);
            x.commit(x.begin(1));
            x.advance(20);
            x.save(0);
            Check.due("unsoundUses()", x.unsoundUses(), 2);
            Check.due("totalWait()", x.totalWait(), 12 + 13);
            Check.due("inversions()", x.inversions(), 1);
            for (int i = 0; i < 6; i++) {
                x.undo();
            }
            Check.due("unsoundUses() after the undo", x.unsoundUses(), 0);
            Check.due("totalWait() after the undo", x.totalWait(), 0);
            Check.due("inversions() after the undo", x.inversions(), 0);
            x.restore(0);
            Check.due("unsoundUses() restored", x.unsoundUses(), 2);
            Check.due("totalWait() restored", x.totalWait(), 25);
            Check.due("inversions() restored", x.inversions(), 1);
        });
    }

    private static void theRest(Sentences s) {
        s.says("The text buffer,", x -> {
            x.save(0);
            x.begin(0);
            Check.append(x, "b0");
            x.undo();
            Check.due("textLength() after undo()", x.textLength(), 2);
            x.appendText(';');
            x.restore(0);
            Check.due("textLength() after restore(0)", x.textLength(), 3);
            Check.due("errorPosition()", x.errorPosition(), 3);
            x.begin(0);
            x.clearText();
            x.undo();
            Check.due("textLength() after clearText() and undo()", x.textLength(), 0);
        });
        s.says("the saved states", x -> {
            x.advance(1);
            x.advance(1);
            x.save(0);
            x.advance(1);
            Check.due("undo()", x.undo(), 2);
            Check.due("undo()", x.undo(), 1);
            x.restore(0);
            Check.due("savedStates() after restore(0)", x.savedStates(), 2);
            Check.due("trueTime()", x.trueTime(), 2);
            x.undo();
            Check.due("trueTime() after undo()", x.trueTime(), 1);
            x.undo();
            Check.due("trueTime() after undo()", x.trueTime(), 0);
        });
        s.says("and the slots are not part of the state.", x -> {
            x.advance(1);
            x.save(0);
            x.advance(1);
            x.undo();
            x.undo();
            x.save(1);
            Check.due("restore(0) after undo()", x.restore(0), 1);
            Check.due("restore(1) after restore(0)", x.restore(1), 0);
            Check.due("restore(0) after restore(1)", x.restore(0), 1);
            x.advance(5);
            x.save(0);
            x.undo();
            Check.due("restore(0), saved and then undone", x.restore(0), 6);
        });
    }

    private static void undoable(Sentences s) {
        s.says("A method that is marked \"Undoable\" saves the state as it was before the call,", x -> {
            Check.undone("begin", Check.busyStore(), y -> y.begin(0));
            Check.undone("read", Check.busyStore(), y -> y.read(1, 2));
            Check.undone("write", Check.busyStore(), y -> y.write(1, 2, 0));
            Check.undone("commit", busyWithOneMore(), y -> y.commit(4));
            Check.undone("abort", Check.busyStore(), y -> y.abort(1));
            Check.undone("advance", Check.busyStore(), y -> y.advance(1));
            Check.undone("synchronize", Check.busyStore(), y -> y.synchronize(0, 1));
            Check.undone("setDrift", Check.busyStore(), y -> y.setDrift(0, 1));
            Check.undone("setUncertainty", Check.busyStore(), y -> y.setUncertainty(0, 1, 1));
            Check.undone("snapshotRead", Check.busyStore(), y -> y.snapshotRead(0, 21));
            Check.undone("runText", Check.busyStore(), y -> y.runText());
            CommitWaitStore kept = Check.busyStore();
            kept.save(0);
            kept.begin(1);
            Check.undone("restore", kept, y -> y.restore(0));
        });
        s.says("A method that is marked \"Undoable\"", x -> {
            x.begin(0);
            x.commit(x.begin(0));
            x.save(0);
            x.save(1);
            x.appendText('b');
            x.errorPosition();
            x.clearText();
            Check.everything(x);
            x.countInState(0);
            x.ticksUntilSafe(1000);
            Check.due("savedStates() after calls that are not marked", x.savedStates(), 3);
        });
    }

    private static void refusedOrLocked(Sentences s) {
        s.says("unless the call throws an exception", x -> {
            x.advance(1);
            Check.index("begin(3)", () -> x.begin(3));
            Check.index("read(0, 0)", () -> x.read(0, 0));
            Check.index("write(0, 0, 0)", () -> x.write(0, 0, 0));
            Check.index("commit(0)", () -> x.commit(0));
            Check.index("abort(0)", () -> x.abort(0));
            Check.argument("advance(0)", () -> x.advance(0));
            Check.argument("synchronize(0, 501)", () -> x.synchronize(0, 501));
            Check.argument("setDrift(0, 101)", () -> x.setDrift(0, 101));
            Check.argument("setUncertainty(0, 501, 0)", () -> x.setUncertainty(0, 501, 0));
            Check.illegalState("snapshotRead(0, 100)", () -> x.snapshotRead(0, 100));
            Check.illegalState("runText()", x::runText);
            Check.illegalState("restore(0)", () -> x.restore(0));
            Check.due("savedStates()", x.savedStates(), 1);
        });
        s.says("or returns LOCKED.", x -> {
            x.commit(Check.writer(x, 0, 0, 1));
            int t = Check.writer(x, 0, 0, 2);
            Check.due("savedStates()", x.savedStates(), 5);
            Check.due("commit", x.commit(t), CommitWaitStore.LOCKED);
            Check.due("savedStates() after LOCKED", x.savedStates(), 5);
            Check.due("undo()", x.undo(), 4);
            Check.due("the write is undone", x.bufferedValue(t, 0), CommitWaitStore.NONE);
            Check.due("commit of the transaction that has not written", x.commit(t), 6);
            Check.due("savedStates() after an acceptance", x.savedStates(), 5);
        });
        // LOCKED is the result of a commit request: another answer that is -3 too is none of it.
        s.says("or returns LOCKED.", x -> {
            Check.due("synchronize(0, -3)", x.synchronize(0, -3), -3);
            Check.due("savedStates() after synchronize", x.savedStates(), 1);
            x.setDrift(1, -3);
            Check.due("setDrift(1, 4)", x.setDrift(1, 4), -3);
            Check.due("savedStates() after setDrift", x.savedStates(), 3);
            Check.due("undo() of setDrift", x.undo(), 2);
            Check.due("setDrift(1, -3), as before it", x.setDrift(1, -3), -3);
        });
    }

    private static void changingNothing(Sentences s) {
        s.says("(It is saved even if the call changes nothing.)", x -> {
            int t = Check.reader(x, 0, 4);
            x.write(t, 3, 9);
            Check.undone("read of a recorded version", x, y -> y.read(t, 4));
            Check.undone("read of a buffered value", x, y -> y.read(t, 3));
            Check.undone("write of the same value", x, y -> y.write(t, 3, 9));
        });
        s.says("(It is saved even if the call changes nothing.)", x -> {
            Check.undone("synchronize at once", x, y -> y.synchronize(0, 0));
            Check.undone("setDrift at once", x, y -> y.setDrift(0, 0));
            Check.undone("setUncertainty at once", x, y -> y.setUncertainty(0, 5, 2));
            Check.undone("snapshotRead at the read floor", x, y -> y.snapshotRead(0, 0));
        });
        s.says("(It is saved even if the call changes nothing.)", x -> {
            x.save(0);
            Check.undone("restore of the same state", x, y -> y.restore(0));
            Check.append(x, "c0");
            Check.undone("runText that executes nothing", x, y -> y.runText());
        });
    }

    private static void sixStates(Sentences s) {
        s.says("At most 6 states are saved;", x -> {
            Check.due("savedStates() at first", x.savedStates(), 0);
            for (int i = 1; i <= 30; i++) {
                x.advance(1);
                Check.due("savedStates() after " + i + " calls", x.savedStates(), Math.min(i, 6));
            }
        });
        s.says("when a seventh state is saved, the oldest saved state is discarded.", x -> {
            for (int calls = 5; calls <= 14; calls++) {
                CommitWaitStore y = new CommitWaitStore();
                for (int i = 0; i < calls; i++) {
                    y.advance(1);
                }
                int saved = Math.min(calls, 6);
                for (int i = 1; i <= saved; i++) {
                    Check.due("undo() after " + calls + " calls", y.undo(), saved - i);
                    Check.due("trueTime()", y.trueTime(), calls - i);
                }
                Check.illegalState("undo() of a state that was discarded", y::undo);
                Check.due("trueTime(), the oldest that is left", y.trueTime(), calls - saved);
            }
        });
    }

    private static void slots(Sentences s) {
        s.says("There are two slots, 0 and 1, which are empty at first.", x -> {
            Check.illegalState("restore(0) at first", () -> x.restore(0));
            Check.illegalState("restore(1) at first", () -> x.restore(1));
            Check.range("save", 0, 1, Check.INDEX, n -> x.save(n));
            Check.range("restore", 0, 1, Check.INDEX, n -> x.restore(n));
            CommitWaitStore y = new CommitWaitStore();
            y.advance(3);
            y.save(1);
            Check.illegalState("restore(0), only 1 is full", () -> y.restore(0));
            y.advance(3);
            y.save(0);
            Check.due("restore(1)", y.restore(1), 3);
            Check.due("restore(0)", y.restore(0), 6);
        });
    }
}
