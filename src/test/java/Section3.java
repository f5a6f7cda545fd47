/** Section 3: transactions. */
final class Section3 {
    private static final int NONE = CommitWaitStore.NONE;

    private Section3() {
    }

    static void test(Sentences s) {
        s.at("Section 3");
        beginning(s);
        states(s);
        writing(s);
        reading(s);
        hasRead(s);
    }

    private static void beginning(Sentences s) {
        s.says("At most 40 transactions can begin.", x -> {
            for (int i = 0; i < 39; i++) {
                x.begin(i % 3);
            }
            Check.due("the fortieth begin", x.begin(2), 39);
            Check.illegalState("the forty-first begin", () -> x.begin(2));
            Check.due("transactions()", x.transactions(), 40);
            x.undo();
            Check.due("the fortieth begin after undo()", x.begin(0), 39);
            Check.illegalState("the forty-first begin", () -> x.begin(0));
        });
        s.says("At most 40 transactions can begin.", x -> {
            for (int i = 0; i < 40; i++) {
                int t = x.begin(0);
                Check.due("abort or commit", i % 2 == 0 ? x.abort(t) : Math.min(0, x.commit(t)), 0);
            }
            x.advance(1000);
            Check.due("countInState(COMMITTED)", x.countInState(CommitWaitStore.COMMITTED), 20);
            Check.due("countInState(ABORTED)", x.countInState(CommitWaitStore.ABORTED), 20);
            Check.illegalState("begin after 40 that are over", () -> x.begin(0));
            Check.due("b0 after 40 that are over", Check.executed(x, "b0"), 0);
        });
        s.says("They are numbered from 0 in the order in which they begin.", x -> {
            for (int i = 0; i < 40; i++) {
                Check.due("begin, the server " + (39 - i) % 3, x.begin((39 - i) % 3), i);
                int number = i;
                Check.index("state of the next", () -> x.state(number + 1));
                Check.due("state", x.state(number), CommitWaitStore.OPEN);
            }
        });
    }

    private static void states(Sentences s) {
        s.says("A transaction belongs to one server, and it is open, waiting, committed or aborted.", x -> {
            for (int server = 0; server < 3; server++) {
                x.synchronize(server, 100 * server);
            }
            int[] timestamps = {5, 105, 205};
            for (int server = 2; server >= 0; server--) {
                Check.due("commit at " + server, x.commit(x.begin(server)), timestamps[server]);
            }
            x.advance(20);
            for (int t = 0; t < 3; t++) {
                Check.due("state", x.state(t), CommitWaitStore.COMMITTED);
            }
        });
        s.says("it is open, waiting, committed or aborted.", x -> {
            int t = x.begin(0);
            Check.due("state", x.state(t), CommitWaitStore.OPEN);
            x.commit(t);
            Check.due("state", x.state(t), CommitWaitStore.WAITING);
            x.advance(11);
            Check.due("state", x.state(t), CommitWaitStore.WAITING);
            x.advance(1);
            Check.due("state", x.state(t), CommitWaitStore.COMMITTED);
            int aborted = x.begin(0);
            x.abort(aborted);
            Check.due("state", x.state(aborted), CommitWaitStore.ABORTED);
            x.advance(100);
            Check.due("state", x.state(aborted), CommitWaitStore.ABORTED);
            Check.due("state", x.state(t), CommitWaitStore.COMMITTED);
        });
        s.says("It is open when it begins.", x -> {
            int t = x.begin(1);
            Check.due("state", x.state(t), CommitWaitStore.OPEN);
            for (int key = 0; key < 8; key++) {
                Check.due("bufferedValue", x.bufferedValue(t, key), NONE);
                Check.due("recordedTimestamp", x.recordedTimestamp(t, key), NONE);
            }
            x.advance(1000);
            Check.due("state after 1000 ticks", x.state(t), CommitWaitStore.OPEN);
        });
        s.says("It is open when it begins.", x -> {
            // Nothing is left of an undone transaction of the same number.
            int undone = Check.reader(x, 0, 0);
            x.write(undone, 7, 1);
            x.commit(undone);
            x.advance(12);
            for (int i = 0; i < 5; i++) {
                x.undo();
            }
            int t = x.begin(1);
            Check.due("begin", t, undone);
            Check.due("state", x.state(t), CommitWaitStore.OPEN);
            Check.due("timestamp", x.timestamp(t), NONE);
            Check.due("requestTime", x.requestTime(t), NONE);
            Check.due("commitTime", x.commitTime(t), NONE);
            Check.due("recordedTimestamp", x.recordedTimestamp(t, 0), NONE);
            Check.due("bufferedValue", x.bufferedValue(t, 7), NONE);
        });
    }

    private static void writing(Sentences s) {
        s.says("An open transaction can write a key.", x -> {
            int t = x.begin(0);
            Check.due("write in an open one", x.write(t, 0, 1), 1);
            x.commit(t);
            Check.illegalState("write in a waiting one", () -> x.write(t, 0, 1));
            x.advance(11);
            Check.illegalState("write in a waiting one, a tick before the commit", () -> x.write(t, 0, 1));
            x.advance(1);
            Check.illegalState("write in a committed one", () -> x.write(t, 0, 1));
            int aborted = x.begin(0);
            x.abort(aborted);
            Check.illegalState("write in an aborted one", () -> x.write(aborted, 0, 1));
        });
        s.says("The value is buffered in the transaction;", x -> {
            int t = Check.writer(x, 0, 0, 55);
            int other = x.begin(0);
            Check.due("bufferedValue", x.bufferedValue(t, 0), 55);
            Check.due("bufferedValue of another transaction", x.bufferedValue(other, 0), NONE);
            Check.due("bufferedValue of another key", x.bufferedValue(t, 1), NONE);
            Check.due("valueAt", x.valueAt(0, Check.MOST), 0);
            Check.due("versions", x.versions(0), 1);
            Check.due("read in another transaction", x.read(other, 0), 0);
        });
        s.says("a second write of the same key replaces the buffered value.", x -> {
            int t = Check.writer(x, 0, 7, 9999);
            x.write(t, 6, 3);
            Check.due("write of the same key", x.write(t, 7, 0), 2);
            Check.due("bufferedValue", x.bufferedValue(t, 7), 0);
            Check.due("write of the same key", x.write(t, 7, 8), 2);
            Check.due("bufferedValue", x.bufferedValue(t, 7), 8);
            Check.due("bufferedValue of another key", x.bufferedValue(t, 6), 3);
            x.commit(t);
            x.advance(12);
            Check.due("versions", x.versions(7), 2);
            Check.due("valueAt", x.valueAt(7, 5), 8);
        });
    }

    private static void reading(Sentences s) {
        s.says("An open transaction can read a key:", x -> {
            int t = x.begin(0);
            Check.due("read in an open one", x.read(t, 0), 0);
            x.commit(t);
            Check.illegalState("read in a waiting one", () -> x.read(t, 0));
            x.advance(11);
            Check.illegalState("read in a waiting one, a tick before the commit", () -> x.read(t, 0));
            x.advance(1);
            Check.illegalState("read in a committed one", () -> x.read(t, 0));
            int aborted = x.begin(0);
            x.abort(aborted);
            Check.illegalState("read in an aborted one", () -> x.read(aborted, 0));
        });
        s.says("If the transaction has written the key, the read returns the buffered value, and nothing is recorded.", x -> {
            x.commit(Check.writer(x, 0, 2, 77));
            x.advance(12);
            int t = Check.writer(x, 1, 2, 0);
            Check.due("read of a written 0", x.read(t, 2), 0);
            Check.due("recordedTimestamp", x.recordedTimestamp(t, 2), NONE);
            Check.due("read of a key that is not written", x.read(t, 1), 0);
            Check.due("recordedTimestamp", x.recordedTimestamp(t, 1), 0);
            int after = Check.reader(x, 1, 2);
            x.write(after, 2, 9999);
            Check.due("read of a key that was read, then written", x.read(after, 2), 9999);
            Check.due("recordedTimestamp stays", x.recordedTimestamp(after, 2), 5);
        });
        s.says("Otherwise, if a version of the key is recorded in the transaction, the read returns the value of this "
                + "version.", x -> {
            int first = Check.reader(x, 1, 2);
            x.commit(Check.writer(x, 0, 2, 77));
            x.advance(12);
            int second = Check.reader(x, 1, 2);
            x.commit(Check.writer(x, 0, 2, 88));
            x.advance(20);
            Check.due("read of the version 0", x.read(first, 2), 0);
            Check.due("recordedTimestamp", x.recordedTimestamp(first, 2), 0);
            Check.due("read of the version in the middle", x.read(second, 2), 77);
            Check.due("recordedTimestamp", x.recordedTimestamp(second, 2), 5);
            Check.due("read of another key", x.read(first, 3), 0);
        });
        s.says("Otherwise the newest version of the key is recorded in the transaction, and the read returns its value.", x -> {
            int early = x.begin(1);
            x.commit(Check.writer(x, 0, 2, 77));
            x.advance(11);
            Check.due("read while the writer waits", x.read(x.begin(1), 2), 0);
            x.advance(1);
            Check.due("read at the tick of the commit", x.read(early, 2), 77);
            Check.due("recordedTimestamp", x.recordedTimestamp(early, 2), 5);
            Check.due("recordedTimestamp of another key", x.recordedTimestamp(early, 1), NONE);
            Check.due("recordedTimestamp of another key", x.recordedTimestamp(early, 3), NONE);
        });
    }

    private static void hasRead(Sentences s) {
        s.says("A transaction has read a key if a version of the key is recorded in it (also if it has written the key "
                + "since).", x -> {
            int both = Check.reader(x, 1, 0);
            x.write(both, 0, 1);
            int writtenFirst = Check.writer(x, 1, 0, 2);
            x.read(writtenFirst, 0);
            x.commit(Check.writer(x, 0, 0, 3));
            x.advance(12);
            Check.due("ifCommitted, read and written since", x.ifCommitted(both), CommitWaitStore.CONFLICT);
            Check.due("ifCommitted, written before the read", x.ifCommitted(writtenFirst) > 0, true);
            Check.due("readerMark before", x.readerMark(0), 0);
            Check.due("commit", x.commit(writtenFirst), 18);
            x.advance(50);
            Check.due("readerMark, written before the read", x.readerMark(0), 0);
            int last = Check.reader(x, 0, 0);
            x.write(last, 0, 4);
            int timestamp = x.commit(last);
            x.advance(50);
            Check.due("readerMark, read and written since", x.readerMark(0), timestamp);
        });
    }
}
