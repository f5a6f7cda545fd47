/** Promises 1 to 6 and 25 to 33: a new object, transactions, and the queries about them. */
public final class TransactionTest {
    public static void main(String[] arguments) {
        newObject();
        beginning();
        reading();
        writing();
        requestTimestamps();
        conflict();
        locks();
        locksFromReads();
        aborting();
        statesAndTimes();
        foresight();
        throwingCallsChangeNothing();
        Check.end("TransactionTest");
    }

    private static void newObject() {
        CommitWaitStore x = new CommitWaitStore();
        Check.due("trueTime()", x.trueTime(), 0);
        Check.due("transactions()", x.transactions(), 0);
        Check.due("savedStates()", x.savedStates(), 0);
        Check.due("textLength()", x.textLength(), 0);
        Check.due("readFloor()", x.readFloor(), 0);
        Check.due("unsoundUses()", x.unsoundUses(), 0);
        Check.due("totalWait()", x.totalWait(), 0);
        Check.due("inversions()", x.inversions(), 0);
        for (int server = 0; server < 3; server++) {
            Check.due("reading", x.reading(server), 0);
            Check.due("earliest", x.earliest(server), -5);
            Check.due("latest", x.latest(server), 5);
            Check.due("setDrift", x.setDrift(server, 0), 0);
        }
        for (int key = 0; key < 8; key++) {
            Check.due("versions", x.versions(key), 1);
            Check.due("versionTimestamp", x.versionTimestamp(key, 0), 0);
            Check.due("valueAt", x.valueAt(key, 0), 0);
        }
    }

    private static void beginning() {
        CommitWaitStore x = new CommitWaitStore();
        Check.index("begin(-1)", () -> x.begin(-1));
        Check.index("begin(3)", () -> x.begin(3));
        for (int i = 0; i < 40; i++) {
            Check.due("begin", x.begin(i % 3), i);
            Check.due("transactions()", x.transactions(), i + 1);
            Check.due("state", x.state(i), CommitWaitStore.OPEN);
        }
        Check.due("savedStates()", x.savedStates(), 6);
        Check.illegalState("begin(0), the 41st", () -> x.begin(0));
        Check.index("begin(3), the 41st", () -> x.begin(3));
        Check.due("transactions()", x.transactions(), 40);
        x.undo();
        Check.due("begin(2) after undo", x.begin(2), 39);
    }

    private static void reading() {
        CommitWaitStore x = new CommitWaitStore();
        int a = x.begin(0);
        x.write(a, 1, 7);
        Check.due("read of a written key", x.read(a, 1), 7);
        Check.due("recordedTimestamp of a written key", x.recordedTimestamp(a, 1), CommitWaitStore.NONE);
        Check.due("read", x.read(a, 2), 0);
        Check.due("recordedTimestamp", x.recordedTimestamp(a, 2), 0);
        int b = Check.writer(x, 0, 2, 55);
        Check.due("commit", x.commit(b), 5);
        Check.due("advance(11)", x.advance(11), 0);
        Check.due("advance(1)", x.advance(1), 1);
        Check.due("read of the recorded version", x.read(a, 2), 0);
        x.write(a, 2, 8);
        Check.due("read of the buffered value", x.read(a, 2), 8);
        Check.due("recordedTimestamp stays", x.recordedTimestamp(a, 2), 0);
        int c = x.begin(1);
        Check.due("read of the newest version", x.read(c, 2), 55);
        Check.due("recordedTimestamp", x.recordedTimestamp(c, 2), 5);
        Check.due("recordedTimestamp, another key", x.recordedTimestamp(c, 3), CommitWaitStore.NONE);
        Check.index("read(3, 0)", () -> x.read(3, 0));
        Check.index("read(-1, 0)", () -> x.read(-1, 0));
        Check.index("read(0, -1)", () -> x.read(0, -1));
        Check.index("read(0, 8)", () -> x.read(0, 8));
        Check.illegalState("read in a committed transaction", () -> x.read(b, 0));
        Check.index("read(b, 8)", () -> x.read(b, 8));
        x.abort(c);
        Check.illegalState("read in an aborted transaction", () -> x.read(c, 0));
        Check.index("recordedTimestamp(3, 0)", () -> x.recordedTimestamp(3, 0));
        Check.index("recordedTimestamp(-1, 0)", () -> x.recordedTimestamp(-1, 0));
        Check.index("recordedTimestamp(0, 8)", () -> x.recordedTimestamp(0, 8));
        Check.index("recordedTimestamp(0, -1)", () -> x.recordedTimestamp(0, -1));
        Check.due("recordedTimestamp of an aborted one", x.recordedTimestamp(c, 2), 5);
    }

    private static void writing() {
        CommitWaitStore x = new CommitWaitStore();
        int a = x.begin(0);
        Check.due("write", x.write(a, 0, 0), 1);
        Check.due("write", x.write(a, 7, 9999), 2);
        Check.due("write of the same key", x.write(a, 0, 5), 2);
        Check.due("bufferedValue", x.bufferedValue(a, 0), 5);
        Check.due("bufferedValue", x.bufferedValue(a, 7), 9999);
        Check.due("bufferedValue", x.bufferedValue(a, 1), CommitWaitStore.NONE);
        Check.argument("write(0, 0, -1)", () -> x.write(0, 0, -1));
        Check.argument("write(0, 0, 10000)", () -> x.write(0, 0, 10000));
        Check.index("write(0, 8, 10000)", () -> x.write(0, 8, 10000));
        Check.index("write(0, -1, 0)", () -> x.write(0, -1, 0));
        Check.index("write(1, 0, -1)", () -> x.write(1, 0, -1));
        Check.index("write(-1, 0, 0)", () -> x.write(-1, 0, 0));
        x.commit(a);
        Check.illegalState("write in a waiting transaction", () -> x.write(a, 0, 1));
        Check.illegalState("read in a waiting transaction", () -> x.read(a, 0));
        Check.argument("write(a, 0, -1)", () -> x.write(a, 0, -1));
        Check.index("write(a, 8, -1)", () -> x.write(a, 8, -1));
        Check.due("bufferedValue of a waiting one", x.bufferedValue(a, 0), 5);
        Check.index("bufferedValue(1, 0)", () -> x.bufferedValue(1, 0));
        Check.index("bufferedValue(-1, 0)", () -> x.bufferedValue(-1, 0));
        Check.index("bufferedValue(0, 8)", () -> x.bufferedValue(0, 8));
        Check.index("bufferedValue(0, -1)", () -> x.bufferedValue(0, -1));
    }

    /** Each number that a commit timestamp may come from is the greatest once. */
    private static void requestTimestamps() {
        CommitWaitStore x = new CommitWaitStore();
        x.setUncertainty(0, 0, 0);
        x.setUncertainty(1, 30, 0);
        x.setUncertainty(2, 0, 0);
        x.synchronize(0, -100);
        x.synchronize(2, -100);
        int nothing = x.begin(0);
        Check.due("1 + 0 while nothing is assigned", x.commit(nothing), 1);
        Check.due("1 + the greatest assigned", x.commit(x.begin(0)), 2);
        int a = Check.writer(x, 1, 4, 40);
        x.read(a, 5);
        Check.due("the latest time", x.commit(a), 30);
        x.advance(61);
        Check.due("state", x.state(a), CommitWaitStore.COMMITTED);
        int reader = x.begin(0);
        Check.due("read", x.read(reader, 4), 40);
        Check.due("1 + the newest version of a read key", x.commit(reader), 31);
        int writer = Check.writer(x, 2, 4, 41);
        Check.due("a waiting reader locks", x.commit(writer), CommitWaitStore.LOCKED);
        int other = Check.writer(x, 2, 5, 50);
        Check.due("1 + the reader mark", x.commit(other), 31);
        int late = Check.writer(x, 2, 7, 1);
        Check.due("1 + the greatest assigned", x.commit(late), 32);
        x.synchronize(0, 0);
        x.synchronize(2, 0);
        Check.due("advance(1)", x.advance(1), 5);
        int over = Check.writer(x, 0, 4, 42);
        Check.due("the latest time", x.ifCommitted(over), 62);
        x.synchronize(0, -100);
        Check.due("1 + the reader mark, the assigned one", x.ifCommitted(over), 32);
        int same = Check.writer(x, 1, 5, 51);
        x.synchronize(1, -500);
        Check.due("1 + the newest version of a written key", x.ifCommitted(same), 32);
        Check.due("snapshotRead at the floor", x.snapshotRead(0, 30), 0);
        Check.due("1 + assigned", x.ifCommitted(x.begin(1)), 31);
        Check.due("snapshotRead", x.snapshotRead(0, x.safeTime()), 0);
        Check.due("1 + the read floor", x.ifCommitted(x.begin(1)), 1 + x.readFloor());
        Check.due("state, for the unfinished", x.state(writer), CommitWaitStore.OPEN);
    }

    private static void conflict() {
        CommitWaitStore x = new CommitWaitStore();
        int reader = x.begin(1);
        x.read(reader, 0);
        x.write(reader, 0, 9);
        int writer = Check.writer(x, 0, 0, 1);
        x.commit(writer);
        Check.due("a lock while the writer waits", x.commit(reader), CommitWaitStore.LOCKED);
        x.advance(100);
        int waiting = Check.writer(x, 2, 0, 2);
        x.commit(waiting);
        int saved = x.savedStates();
        Check.due("ifCommitted", x.ifCommitted(reader), CommitWaitStore.CONFLICT);
        Check.due("state", x.state(reader), CommitWaitStore.OPEN);
        Check.due("a conflict comes before a lock", x.commit(reader), CommitWaitStore.CONFLICT);
        Check.due("state", x.state(reader), CommitWaitStore.ABORTED);
        Check.due("timestamp", x.timestamp(reader), CommitWaitStore.NONE);
        Check.due("a conflict is undoable", saved == 6 ? x.undo() : -9, 5);
        Check.due("state", x.state(reader), CommitWaitStore.OPEN);
        int blind = Check.writer(x, 1, 0, 3);
        x.advance(100);
        Check.due("who only writes has no conflict", x.commit(blind) > 0, true);
    }

    private static void locks() {
        CommitWaitStore x = new CommitWaitStore();
        int first = Check.writer(x, 0, 0, 1);
        x.commit(first);
        int saved = x.savedStates();
        int second = Check.writer(x, 1, 0, 2);
        String before = Check.everything(x);
        Check.due("ifCommitted", x.ifCommitted(second), CommitWaitStore.LOCKED);
        Check.due("written by both", x.commit(second), CommitWaitStore.LOCKED);
        Check.due("LOCKED changes nothing", Check.everything(x), before);
        Check.due("LOCKED is not undoable", x.savedStates(), saved + 2);
        int third = x.begin(2);
        x.read(third, 0);
        Check.due("written by the waiting one, read here", x.commit(third), CommitWaitStore.LOCKED);
        int fourth = Check.writer(x, 2, 1, 1);
        Check.due("another key", x.commit(fourth), 5);
        x.advance(100);
        Check.due("no lock after the commit", x.commit(second) > 0, true);
    }

    private static void locksFromReads() {
        CommitWaitStore x = new CommitWaitStore();
        int first = x.begin(0);
        x.read(first, 0);
        x.commit(first);
        int reader = x.begin(1);
        x.read(reader, 0);
        Check.due("read by both", x.commit(reader), 5);
        int writer = Check.writer(x, 1, 0, 2);
        Check.due("read by the waiting one, written here", x.commit(writer), CommitWaitStore.LOCKED);
        int open = Check.writer(x, 1, 3, 2);
        Check.due("an open one locks nothing", x.commit(Check.writer(x, 1, 3, 4)), 6);
        Check.due("state", x.state(open), CommitWaitStore.OPEN);
        int both = x.begin(2);
        x.read(both, 5);
        x.write(both, 5, 1);
        x.commit(both);
        int late = x.begin(2);
        x.read(late, 5);
        Check.due("read and written by the waiting one", x.ifCommitted(late), CommitWaitStore.LOCKED);
    }

    private static void aborting() {
        CommitWaitStore x = new CommitWaitStore();
        int a = x.begin(0);
        Check.due("abort with nothing written", x.abort(a), 0);
        int b = x.begin(0);
        x.write(b, 1, 1);
        x.write(b, 2, 1);
        x.write(b, 2, 2);
        Check.due("abort", x.abort(b), 2);
        Check.due("state", x.state(b), CommitWaitStore.ABORTED);
        Check.due("bufferedValue of an aborted one", x.bufferedValue(b, 2), 2);
        Check.illegalState("abort again", () -> x.abort(b));
        Check.illegalState("commit of an aborted one", () -> x.commit(b));
        Check.index("abort(2)", () -> x.abort(2));
        Check.index("abort(-1)", () -> x.abort(-1));
        x.undo();
        Check.due("state after undo", x.state(b), CommitWaitStore.OPEN);
        x.commit(b);
        Check.illegalState("abort of a waiting one", () -> x.abort(b));
        Check.illegalState("commit of a waiting one", () -> x.commit(b));
        Check.index("commit(2)", () -> x.commit(2));
        Check.index("commit(-1)", () -> x.commit(-1));
        x.advance(100);
        Check.illegalState("abort of a committed one", () -> x.abort(b));
        Check.illegalState("commit of a committed one", () -> x.commit(b));
    }

    private static void statesAndTimes() {
        CommitWaitStore x = new CommitWaitStore();
        x.advance(3);
        int open = x.begin(0);
        int aborted = x.begin(0);
        int done = Check.writer(x, 1, 0, 1);
        x.abort(aborted);
        // At 3 the uncertainty is 5 + 6 / 1000, rounded up: 6.
        Check.due("commit", x.commit(done), 9);
        Check.due("state", x.state(done), CommitWaitStore.WAITING);
        Check.due("timestamp of a waiting one", x.timestamp(done), 9);
        Check.due("requestTime of a waiting one", x.requestTime(done), 3);
        Check.due("commitTime of a waiting one", x.commitTime(done), CommitWaitStore.NONE);
        Check.due("advance(12)", x.advance(12), 0);
        Check.due("advance(5)", x.advance(5), 1);
        Check.due("state", x.state(done), CommitWaitStore.COMMITTED);
        Check.due("timestamp", x.timestamp(done), 9);
        Check.due("requestTime", x.requestTime(done), 3);
        Check.due("commitTime", x.commitTime(done), 16);
        for (int transaction = open; transaction <= aborted; transaction++) {
            Check.due("timestamp", x.timestamp(transaction), CommitWaitStore.NONE);
            Check.due("requestTime", x.requestTime(transaction), CommitWaitStore.NONE);
            Check.due("commitTime", x.commitTime(transaction), CommitWaitStore.NONE);
        }
        for (int wrong : new int[] {-1, 3, 39, 40}) {
            Check.index("state", () -> x.state(wrong));
            Check.index("timestamp", () -> x.timestamp(wrong));
            Check.index("requestTime", () -> x.requestTime(wrong));
            Check.index("commitTime", () -> x.commitTime(wrong));
            Check.index("ifCommitted", () -> x.ifCommitted(wrong));
            Check.index("ticksToCommit", () -> x.ticksToCommit(wrong));
        }
    }

    private static void foresight() {
        CommitWaitStore x = new CommitWaitStore();
        int a = Check.writer(x, 0, 0, 1);
        Check.due("ifCommitted", x.ifCommitted(a), 5);
        Check.due("ifCommitted changes nothing", x.state(a), CommitWaitStore.OPEN);
        Check.due("ticksToCommit of an open one", x.ticksToCommit(a), CommitWaitStore.NONE);
        x.commit(a);
        Check.due("ifCommitted of a waiting one", x.ifCommitted(a), CommitWaitStore.NONE);
        Check.due("ticksToCommit", x.ticksToCommit(a), 12);
        // A drift of 100 and no uncertainty: 11 ticks count as 12.
        x.setUncertainty(0, 5, 0);
        Check.due("ticksToCommit", x.ticksToCommit(a), 11);
        x.setDrift(0, 100);
        Check.due("ticksToCommit", x.ticksToCommit(a), 10);
        // Past its timestamp by the clock already, but examined only after a tick.
        x.synchronize(0, 500);
        Check.due("state", x.state(a), CommitWaitStore.WAITING);
        Check.due("ticksToCommit, the least", x.ticksToCommit(a), 1);
        x.advance(1);
        Check.due("ticksToCommit of a committed one", x.ticksToCommit(a), 0);
        Check.due("ifCommitted of a committed one", x.ifCommitted(a), CommitWaitStore.NONE);
        int b = x.begin(1);
        x.abort(b);
        Check.due("ticksToCommit of an aborted one", x.ticksToCommit(b), CommitWaitStore.NONE);
        Check.due("ifCommitted of an aborted one", x.ifCommitted(b), CommitWaitStore.NONE);
        longestWait();
    }

    /** A transaction that waits 10000 ticks, and one that waits one more. */
    private static void longestWait() {
        CommitWaitStore x = new CommitWaitStore();
        for (int i = 0; i < 99; i++) {
            x.advance(1000);
        }
        x.advance(990);
        x.setUncertainty(0, 0, 100);
        int a = x.begin(0);
        Check.due("commit", x.commit(a), 99990 + 9999);
        x.setUncertainty(0, 0, 0);
        Check.due("ticksToCommit, the greatest", x.ticksToCommit(a), 10000);
        x.setUncertainty(0, 1, 0);
        Check.due("ticksToCommit, one more", x.ticksToCommit(a), CommitWaitStore.NONE);
        x.synchronize(0, -1);
        x.setUncertainty(0, 0, 0);
        Check.due("ticksToCommit, one more by the offset", x.ticksToCommit(a), CommitWaitStore.NONE);
        // After n ticks the earliest time is 99990 - 500 + n - 2 * n / 10, both tenths rounded up.
        x.setUncertainty(0, 0, 100);
        x.synchronize(0, -500);
        x.setDrift(0, -100);
        int b = x.begin(0);
        Check.due("commit", x.commit(b), 99990 + 9999 + 1);
        Check.due("ticksToCommit of a slow clock", x.ticksToCommit(b), CommitWaitStore.NONE);
        x.synchronize(0, 500);
        x.undo();
        x.undo();
        x.undo();
        x.undo();
        x.synchronize(0, 500);
        x.setDrift(0, 100);
        // After n ticks the earliest time is 99990 + 500 + n; 9500 ticks are the first to pass.
        Check.due("ticksToCommit with as much drift as growth", x.ticksToCommit(a), 9500);
    }

    private static void throwingCallsChangeNothing() {
        CommitWaitStore x = new CommitWaitStore();
        int a = Check.writer(x, 0, 0, 1);
        x.commit(a);
        x.begin(1);
        String before = Check.everything(x);
        Check.index("begin(7)", () -> x.begin(7));
        Check.index("read(0, 9)", () -> x.read(0, 9));
        Check.illegalState("read(0, 0)", () -> x.read(0, 0));
        Check.argument("write(1, 0, 10000)", () -> x.write(1, 0, 10000));
        Check.illegalState("write(0, 0, 1)", () -> x.write(0, 0, 1));
        Check.illegalState("commit(0)", () -> x.commit(0));
        Check.illegalState("abort(0)", () -> x.abort(0));
        Check.due("the store after calls that throw", Check.everything(x), before);
    }
}
