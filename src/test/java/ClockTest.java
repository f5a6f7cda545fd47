/** Promises 7 to 10 and 19 to 24: the true time, the clocks, and the queries about them. */
public final class ClockTest {
    public static void main(String[] arguments) {
        advancing();
        examination();
        theGreatestTime();
        synchronizing();
        drifting();
        uncertainty();
        soundness();
        nextTimestamps();
        fallingEarliestTime();
        wrongServers();
        throwingCallsChangeNothing();
        Check.end("ClockTest");
    }

    private static void advancing() {
        CommitWaitStore x = new CommitWaitStore();
        Check.argument("advance(0)", () -> x.advance(0));
        Check.argument("advance(-1)", () -> x.advance(-1));
        Check.argument("advance(1001)", () -> x.advance(1001));
        Check.due("advance(1)", x.advance(1), 0);
        Check.due("advance(1000)", x.advance(1000), 0);
        Check.due("trueTime()", x.trueTime(), 1001);
        Check.due("savedStates()", x.savedStates(), 2);
        x.undo();
        Check.due("an advance is undone as one call", x.trueTime(), 1);
    }

    private static void examination() {
        CommitWaitStore x = new CommitWaitStore();
        for (int server = 0; server < 3; server++) {
            x.setUncertainty(server, 2 + server, 0);
        }
        int a = Check.writer(x, 0, 0, 10);
        int b = Check.writer(x, 1, 1, 11);
        int c = Check.writer(x, 2, 2, 12);
        Check.due("commit", x.commit(a), 2);
        Check.due("commit", x.commit(b), 3);
        Check.due("commit", x.commit(c), 4);
        Check.due("advance(4)", x.advance(4), 0);
        Check.due("advance(5)", x.advance(5), 3);
        Check.due("commitTime", x.commitTime(a), 5);
        Check.due("commitTime", x.commitTime(b), 7);
        Check.due("commitTime", x.commitTime(c), 9);
        Check.due("versionTimestamp", x.versionTimestamp(1, 1), 3);
        Check.due("valueAt", x.valueAt(2, 4), 12);
        x.undo();
        Check.due("advance(2)", x.advance(2), 1);
        // A clock that is set is not a tick: nothing is examined.
        x.synchronize(1, 100);
        x.setUncertainty(2, 0, 0);
        x.setDrift(2, 100);
        Check.due("countInState(WAITING)", x.countInState(CommitWaitStore.WAITING), 2);
        Check.due("advance(1)", x.advance(1), 2);
    }

    private static void theGreatestTime() {
        CommitWaitStore x = new CommitWaitStore();
        Check.append(x, "t1000;t1000;t1000;t1000;t1000;t1000;t1000;t1000;t1000;t1000;t1000;t1000;t1000");
        for (int i = 0; i < 76; i++) {
            Check.due("runText()", x.runText(), 13);
        }
        Check.due("trueTime()", x.trueTime(), 988000);
        Check.due("runText() up to the end", x.runText(), 12);
        Check.due("trueTime()", x.trueTime(), 1000000);
        Check.illegalState("advance(1)", () -> x.advance(1));
        Check.argument("advance(1001)", () -> x.advance(1001));
        Check.argument("advance(0)", () -> x.advance(0));
        // Uncertainty 5 + 2000 at the true time 1000000.
        Check.due("latest(0)", x.latest(0), 1002005);
        int a = x.begin(0);
        Check.due("commit", x.commit(a), 1002005);
        Check.due("ticksToCommit beyond the greatest time", x.ticksToCommit(a), 4020);
        Check.due("ticksUntilSafe beyond the greatest time", x.ticksUntilSafe(1002005), 4020);
        x.undo();
        Check.due("ticksUntilSafe by the clocks alone", x.ticksUntilSafe(1002005), 1);
        x.undo();
        x.undo();
        x.advance(999);
        x.advance(1);
        x.advance(999);
        Check.due("trueTime()", x.trueTime(), 989999);
        for (int i = 0; i < 10; i++) {
            x.advance(1000);
        }
        Check.due("trueTime()", x.trueTime(), 999999);
        Check.illegalState("advance(2)", () -> x.advance(2));
        Check.due("advance(1)", x.advance(1), 0);
        Check.due("trueTime()", x.trueTime(), 1000000);
    }

    private static void synchronizing() {
        CommitWaitStore x = new CommitWaitStore();
        x.setDrift(0, 100);
        x.advance(1000);
        Check.due("reading", x.reading(0), 1100);
        Check.due("earliest", x.earliest(0), 1093);
        Check.due("synchronize", x.synchronize(0, -500), -600);
        Check.due("reading", x.reading(0), 500);
        Check.due("the uncertainty grows anew", x.earliest(0), 495);
        x.advance(10);
        Check.due("the drift stays", x.reading(0), 511);
        Check.due("the growth stays", x.latest(0), 517);
        Check.due("synchronize", x.synchronize(0, 500), 999);
        Check.argument("synchronize(0, 501)", () -> x.synchronize(0, 501));
        Check.argument("synchronize(0, -501)", () -> x.synchronize(0, -501));
        Check.index("synchronize(3, 501)", () -> x.synchronize(3, 501));
        Check.index("synchronize(-1, 0)", () -> x.synchronize(-1, 0));
        x.undo();
        Check.due("reading after undo", x.reading(0), 511);
        Check.due("another clock", x.reading(1), 1010);
    }

    private static void drifting() {
        CommitWaitStore x = new CommitWaitStore();
        Check.due("setDrift", x.setDrift(1, -100), 0);
        x.advance(1);
        Check.due("an offset of -0.1 is rounded down", x.reading(1), 0);
        x.advance(9);
        Check.due("an offset of -1", x.reading(1), 9);
        x.advance(1);
        Check.due("an offset of -1.1", x.reading(1), 9);
        Check.due("setDrift", x.setDrift(1, 99), -100);
        Check.due("the present offset is kept", x.reading(1), 9);
        x.advance(10);
        Check.due("an offset of -2 + 0.99", x.reading(1), 19);
        x.advance(1);
        Check.due("an offset of -2 + 1.089", x.reading(1), 21);
        Check.due("the synchronization time stays", x.latest(1), 21 + 6);
        Check.due("setDrift", x.setDrift(1, 100), 99);
        Check.argument("setDrift(1, 101)", () -> x.setDrift(1, 101));
        Check.argument("setDrift(1, -101)", () -> x.setDrift(1, -101));
        Check.index("setDrift(3, 101)", () -> x.setDrift(3, 101));
        Check.index("setDrift(-1, 0)", () -> x.setDrift(-1, 0));
        x.undo();
        Check.due("setDrift after undo", x.setDrift(1, 0), 99);
    }

    private static void uncertainty() {
        CommitWaitStore x = new CommitWaitStore();
        Check.due("setUncertainty", x.setUncertainty(2, 500, 100), 500);
        x.advance(1);
        Check.due("500.1 is rounded up", x.latest(2), 502);
        x.advance(9);
        Check.due("501 stays 501", x.latest(2), 511);
        x.advance(1);
        Check.due("501.1 is rounded up", x.earliest(2), 11 - 502);
        Check.due("the synchronization time stays", x.setUncertainty(2, 0, 91), 2);
        Check.due("setUncertainty", x.setUncertainty(2, 0, 0), 0);
        Check.due("earliest", x.earliest(2), 11);
        Check.due("setUncertainty", x.setUncertainty(2, 3, 90), 4);
        Check.argument("base -1", () -> x.setUncertainty(2, -1, 0));
        Check.argument("base 501", () -> x.setUncertainty(2, 501, 0));
        Check.argument("growth -1", () -> x.setUncertainty(2, 0, -1));
        Check.argument("growth 101", () -> x.setUncertainty(2, 0, 101));
        Check.index("server 3", () -> x.setUncertainty(3, 501, 0));
        Check.index("server -1", () -> x.setUncertainty(-1, 0, 0));
        x.undo();
        Check.due("latest after undo", x.latest(2), 11);
    }

    private static void soundness() {
        CommitWaitStore x = new CommitWaitStore();
        x.synchronize(0, 5);
        Check.due("the earliest time is the true time", x.isSound(0), true);
        x.synchronize(0, 6);
        Check.due("the earliest time is behind the true time", x.isSound(0), false);
        x.synchronize(0, -5);
        Check.due("the latest time is the true time", x.isSound(0), true);
        x.synchronize(0, -6);
        Check.due("the latest time is before the true time", x.isSound(0), false);
        Check.due("another clock", x.isSound(1), true);
        x.advance(1);
        Check.due("the uncertainty has grown", x.isSound(0), true);
    }

    private static void nextTimestamps() {
        CommitWaitStore x = new CommitWaitStore();
        Check.due("the latest time", x.nextTimestamp(0), 5);
        x.synchronize(0, -500);
        Check.due("1 + nothing", x.nextTimestamp(0), 1);
        x.commit(x.begin(0));
        Check.due("1 + the greatest assigned", x.nextTimestamp(0), 2);
        x.synchronize(0, 0);
        x.commit(x.begin(0));
        x.synchronize(0, -500);
        Check.due("1 + the greatest assigned", x.nextTimestamp(0), 6);
        Check.due("another server", x.nextTimestamp(1), 5);
        x.undo();
        x.undo();
        Check.due("after undo", x.nextTimestamp(0), 5);
        CommitWaitStore y = new CommitWaitStore();
        y.snapshotRead(0, 4);
        y.synchronize(1, -500);
        Check.due("1 + the read floor", y.nextTimestamp(1), 5);
    }

    /** With a drift of -100 and a growth of 100 the earliest time falls now and then. */
    private static void fallingEarliestTime() {
        CommitWaitStore x = new CommitWaitStore();
        x.setUncertainty(0, 0, 100);
        x.setDrift(0, -100);
        x.advance(10);
        Check.due("earliest at 10", x.earliest(0), 8);
        int before = x.earliest(0);
        x.advance(1);
        Check.due("earliest at 11", x.earliest(0), before - 1);
        CommitWaitStore y = new CommitWaitStore();
        y.setUncertainty(0, 0, 100);
        y.setDrift(0, -100);
        y.setUncertainty(1, 0, 0);
        y.setUncertainty(2, 0, 0);
        y.advance(2);
        int a = y.begin(0);
        // At 2 the clock reads 1, and the uncertainty is 1; at 10 the earliest time is 8.
        Check.due("commit", y.commit(a), 2);
        Check.due("ticksToCommit", y.ticksToCommit(a), 3);
        y.advance(5);
        Check.due("commitTime", y.commitTime(a), 5);
        y.setDrift(0, 0);
        y.setDrift(0, -100);
        y.advance(3);
        y.synchronize(0, 0);
        int b = y.begin(0);
        Check.due("commit", y.commit(b), 10);
        Check.due("earliest(0)", y.earliest(0), 10);
        Check.due("ticksToCommit", y.ticksToCommit(b), 3);
        Check.due("advance(2)", y.advance(2), 0);
        Check.due("advance(1)", y.advance(1), 1);
    }

    private static void wrongServers() {
        CommitWaitStore x = new CommitWaitStore();
        for (int server : new int[] {-1, 3, 2147483647, -2147483648}) {
            Check.index("reading", () -> x.reading(server));
            Check.index("earliest", () -> x.earliest(server));
            Check.index("latest", () -> x.latest(server));
            Check.index("isSound", () -> x.isSound(server) ? 1 : 0);
            Check.index("nextTimestamp", () -> x.nextTimestamp(server));
        }
    }

    private static void throwingCallsChangeNothing() {
        CommitWaitStore x = new CommitWaitStore();
        x.advance(3);
        String before = Check.everything(x);
        Check.argument("advance(1001)", () -> x.advance(1001));
        Check.argument("synchronize(0, 501)", () -> x.synchronize(0, 501));
        Check.argument("setDrift(0, 101)", () -> x.setDrift(0, 101));
        Check.argument("setUncertainty(0, 1, 101)", () -> x.setUncertainty(0, 1, 101));
        Check.index("synchronize(3, 0)", () -> x.synchronize(3, 0));
        Check.due("the store after calls that throw", Check.everything(x), before);
    }
}
