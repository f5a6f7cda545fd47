/** Promises 11 and 34 to 42: snapshot reads, the versions of the keys, the safe time. */
public final class SnapshotTest {
    private static final int MOST = 2147483647;

    public static void main(String[] arguments) {
        snapshotReads();
        versionsOfKeys();
        replay();
        waitingWriters();
        readerMarks();
        safeTime();
        ticksUntilSafe();
        slowClocks();
        manyVersions();
        throwingCallsChangeNothing();
        Check.end("SnapshotTest");
    }

    private static void snapshotReads() {
        CommitWaitStore x = new CommitWaitStore();
        int a = Check.writer(x, 0, 3, 77);
        x.commit(a);
        x.advance(20);
        Check.due("safeTime()", x.safeTime(), 25);
        Check.due("before the version", x.snapshotRead(3, 4), 0);
        Check.due("readFloor()", x.readFloor(), 4);
        Check.due("at the version", x.snapshotRead(3, 5), 77);
        Check.due("at the safe time", x.snapshotRead(3, 25), 77);
        Check.due("readFloor()", x.readFloor(), 25);
        Check.due("below the read floor", x.snapshotRead(3, 0), 0);
        Check.due("the read floor does not fall", x.readFloor(), 25);
        Check.due("savedStates()", x.savedStates(), 6);
        Check.illegalState("above the safe time", () -> x.snapshotRead(3, 26));
        Check.illegalState("far above the safe time", () -> x.snapshotRead(0, MOST));
        Check.argument("snapshotRead(3, -1)", () -> x.snapshotRead(3, -1));
        Check.index("snapshotRead(8, -1)", () -> x.snapshotRead(8, -1));
        Check.index("snapshotRead(-1, 26)", () -> x.snapshotRead(-1, 26));
        x.undo();
        x.undo();
        Check.due("readFloor() after undo", x.readFloor(), 5);
        Check.due("valueAt", x.valueAt(3, 1000), 77);
        Check.due("valueAt leaves the read floor", x.readFloor(), 5);
    }

    private static void versionsOfKeys() {
        CommitWaitStore x = new CommitWaitStore();
        for (int i = 1; i <= 3; i++) {
            x.commit(Check.writer(x, 0, 6, 100 * i));
            x.advance(20);
        }
        Check.due("versions", x.versions(6), 4);
        Check.due("versions of another key", x.versions(5), 1);
        int[] timestamps = {0, 5, 26, 46};
        for (int i = 0; i < 4; i++) {
            int timestamp = timestamps[i];
            Check.due("versionTimestamp", x.versionTimestamp(6, i), timestamp);
            Check.due("valueAt the version", x.valueAt(6, timestamp), 100 * i);
            Check.due("valueAt before the version", timestamp == 0 ? 0 : x.valueAt(6, timestamp - 1),
                    timestamp == 0 ? 0 : 100 * i - 100);
        }
        Check.due("valueAt the greatest number", x.valueAt(6, MOST), 300);
        Check.index("versionTimestamp(6, 4)", () -> x.versionTimestamp(6, 4));
        Check.index("versionTimestamp(6, -1)", () -> x.versionTimestamp(6, -1));
        Check.index("versionTimestamp(5, 1)", () -> x.versionTimestamp(5, 1));
        Check.argument("valueAt(6, -1)", () -> x.valueAt(6, -1));
        Check.argument("replayedValueAt(6, -1)", () -> x.replayedValueAt(6, -1));
        for (int key : new int[] {-1, 8, MOST, -MOST - 1}) {
            Check.index("versions", () -> x.versions(key));
            Check.index("versionTimestamp", () -> x.versionTimestamp(key, 0));
            Check.index("valueAt", () -> x.valueAt(key, -1));
            Check.index("replayedValueAt", () -> x.replayedValueAt(key, -1));
            Check.index("waitingWriter", () -> x.waitingWriter(key));
            Check.index("readerMark", () -> x.readerMark(key));
        }
    }

    private static void replay() {
        CommitWaitStore x = new CommitWaitStore();
        // The higher number commits first, with the lower timestamp.
        int late = Check.writer(x, 0, 2, 20);
        int early = Check.writer(x, 1, 2, 10);
        x.write(early, 3, 30);
        int aborted = Check.writer(x, 2, 2, 99);
        x.abort(aborted);
        x.commit(early);
        x.advance(20);
        x.commit(late);
        Check.due("a waiting one is not replayed", x.replayedValueAt(2, MOST), 10);
        x.advance(20);
        Check.due("replayedValueAt 4", x.replayedValueAt(2, 4), 0);
        Check.due("replayedValueAt 5", x.replayedValueAt(2, 5), 10);
        Check.due("replayedValueAt 25", x.replayedValueAt(2, 25), 10);
        Check.due("timestamp", x.timestamp(late), 26);
        Check.due("replayedValueAt 26", x.replayedValueAt(2, 26), 20);
        Check.due("replayedValueAt the greatest number", x.replayedValueAt(2, MOST), 20);
        Check.due("a key that the last one has not written", x.replayedValueAt(3, MOST), 30);
        Check.due("replayedValueAt 0", x.replayedValueAt(3, 0), 0);
    }

    private static void waitingWriters() {
        CommitWaitStore x = new CommitWaitStore();
        x.begin(0);
        int a = Check.writer(x, 0, 1, 1);
        x.read(a, 2);
        Check.due("an open writer", x.waitingWriter(1), CommitWaitStore.NONE);
        x.commit(a);
        Check.due("a waiting writer", x.waitingWriter(1), 1);
        Check.due("a waiting reader", x.waitingWriter(2), CommitWaitStore.NONE);
        x.advance(100);
        Check.due("a committed writer", x.waitingWriter(1), CommitWaitStore.NONE);
    }

    private static void readerMarks() {
        CommitWaitStore x = new CommitWaitStore();
        Check.due("readerMark at first", x.readerMark(1), 0);
        int a = x.begin(0);
        x.read(a, 1);
        x.write(a, 1, 4);
        x.write(a, 2, 4);
        x.commit(a);
        Check.due("a waiting reader", x.readerMark(1), 0);
        x.advance(20);
        Check.due("a reader that has written since", x.readerMark(1), 5);
        Check.due("a writer", x.readerMark(2), 0);
        int b = x.begin(1);
        x.read(b, 1);
        x.commit(b);
        x.synchronize(2, -500);
        int c = x.begin(2);
        x.read(c, 1);
        Check.due("commit", x.commit(c), 6);
        x.synchronize(2, 0);
        x.advance(20);
        Check.due("the greatest, not the last", x.readerMark(1), 26);
        int d = x.begin(0);
        x.read(d, 1);
        x.abort(d);
        Check.due("an aborted reader", x.readerMark(1), 26);
    }

    private static void safeTime() {
        CommitWaitStore x = new CommitWaitStore();
        Check.due("safeTime()", x.safeTime(), 4);
        x.synchronize(2, -3);
        Check.due("the server that is behind", x.safeTime(), 1);
        x.synchronize(2, -500);
        Check.due("the least safe time", x.safeTime(), 0);
        x.synchronize(2, 100);
        Check.due("safeTime()", x.safeTime(), 4);
        x.synchronize(1, -3);
        Check.due("another server that is behind", x.safeTime(), 1);
        x.synchronize(1, 0);
        x.advance(50);
        Check.due("safeTime()", x.safeTime(), 55);
        int a = Check.writer(x, 0, 0, 1);
        Check.due("commit", x.commit(a), 56);
        x.advance(5);
        Check.due("a waiting transaction", x.safeTime(), 55);
        Check.due("snapshotRead", x.snapshotRead(1, 55), 0);
        x.advance(20);
        Check.due("after its commit", x.safeTime(), 80);
        x.synchronize(0, -500);
        Check.due("the greatest assigned", x.safeTime(), 56);
        Check.due("snapshotRead", x.snapshotRead(1, 56), 0);
        Check.due("the read floor and the assigned one", x.safeTime(), 56);
        x.synchronize(1, -500);
        Check.due("the read floor", x.safeTime(), 56);
    }

    private static void ticksUntilSafe() {
        CommitWaitStore x = new CommitWaitStore();
        Check.argument("ticksUntilSafe(-1)", () -> x.ticksUntilSafe(-1));
        Check.due("safe already", x.ticksUntilSafe(0), 0);
        Check.due("safe already", x.ticksUntilSafe(4), 0);
        Check.due("one tick brings two", x.ticksUntilSafe(6), 1);
        Check.due("ticksUntilSafe(7)", x.ticksUntilSafe(7), 2);
        // The latest time after n ticks is n + 5 + n / 500, rounded up.
        Check.due("the most ticks", x.ticksUntilSafe(10024), 10000);
        Check.due("too many ticks", x.ticksUntilSafe(10025), CommitWaitStore.NONE);
        Check.due("the greatest number", x.ticksUntilSafe(MOST), CommitWaitStore.NONE);
        Check.due("nothing has changed", x.trueTime(), 0);
        int a = Check.writer(x, 0, 0, 1);
        x.commit(a);
        Check.due("below the waiting one", x.ticksUntilSafe(4), 0);
        Check.due("at the waiting one", x.ticksUntilSafe(5), 12);
        Check.due("the waiting one, not the clocks", x.ticksUntilSafe(16), 12);
        Check.due("the clocks, not the waiting one", x.ticksUntilSafe(18), 13);
        Check.due("it waits yet", x.state(a), CommitWaitStore.WAITING);
        x.synchronize(1, -10);
        Check.due("the server that is behind", x.ticksUntilSafe(18), 23);
        x.synchronize(1, -500);
        x.snapshotRead(0, 0);
        Check.due("the read floor", x.ticksUntilSafe(0), 0);
        Check.due("a server far behind", x.ticksUntilSafe(1), 496);
        x.synchronize(1, -500);
        Check.due("assigned by another server", x.ticksUntilSafe(4), 499);
    }

    private static void slowClocks() {
        CommitWaitStore x = new CommitWaitStore();
        x.setUncertainty(0, 0, 0);
        x.setUncertainty(1, 0, 0);
        x.setUncertainty(2, 0, 100);
        x.setDrift(0, -100);
        x.setDrift(1, 100);
        // The slowest clock reads n - n / 10, the tenth rounded up.
        Check.due("safe already", x.ticksUntilSafe(0), 0);
        Check.due("ticksUntilSafe(1)", x.ticksUntilSafe(1), 3);
        Check.due("ticksUntilSafe(8)", x.ticksUntilSafe(8), 10);
        Check.due("ticksUntilSafe(9)", x.ticksUntilSafe(9), 12);
        Check.due("the most ticks", x.ticksUntilSafe(8999), 10000);
        Check.due("too many ticks", x.ticksUntilSafe(9000), CommitWaitStore.NONE);
    }

    /** A key that all 40 transactions have written has 41 versions. */
    private static void manyVersions() {
        CommitWaitStore x = new CommitWaitStore();
        for (int i = 0; i < 40; i++) {
            int transaction = Check.writer(x, i % 3, 7, i + 1);
            Check.due("commit", x.commit(transaction) > 0, true);
            Check.due("advance", x.advance(50), 1);
        }
        Check.due("versions", x.versions(7), 41);
        Check.due("valueAt", x.valueAt(7, MOST), 40);
        Check.due("replayedValueAt", x.replayedValueAt(7, MOST), 40);
        for (int i = 1; i <= 40; i++) {
            int timestamp = x.versionTimestamp(7, i);
            Check.due("versionTimestamp", timestamp, x.timestamp(i - 1));
            Check.due("valueAt", x.valueAt(7, timestamp), i);
            Check.due("replayedValueAt", x.replayedValueAt(7, timestamp - 1), i - 1);
        }
        Check.index("versionTimestamp(7, 41)", () -> x.versionTimestamp(7, 41));
        x.undo();
        Check.due("versions after undo", x.versions(7), 40);
    }

    private static void throwingCallsChangeNothing() {
        CommitWaitStore x = new CommitWaitStore();
        x.snapshotRead(0, 2);
        String before = Check.everything(x);
        Check.illegalState("snapshotRead(0, 5)", () -> x.snapshotRead(0, 5));
        Check.argument("snapshotRead(0, -5)", () -> x.snapshotRead(0, -5));
        Check.index("snapshotRead(8, 3)", () -> x.snapshotRead(8, 3));
        Check.argument("ticksUntilSafe(-5)", () -> x.ticksUntilSafe(-5));
        Check.due("the store after calls that throw", Check.everything(x), before);
    }
}
