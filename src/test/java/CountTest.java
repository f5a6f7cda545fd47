/** Promises 43 to 46: the counts over the whole store. */
public final class CountTest {
    public static void main(String[] arguments) {
        countsInStates();
        totalWait();
        unsoundUses();
        inversions();
        Check.end("CountTest");
    }

    private static void counts(CommitWaitStore x, int open, int waiting, int committed, int aborted) {
        Check.due("countInState(OPEN)", x.countInState(CommitWaitStore.OPEN), open);
        Check.due("countInState(WAITING)", x.countInState(CommitWaitStore.WAITING), waiting);
        Check.due("countInState(COMMITTED)", x.countInState(CommitWaitStore.COMMITTED), committed);
        Check.due("countInState(ABORTED)", x.countInState(CommitWaitStore.ABORTED), aborted);
    }

    private static void countsInStates() {
        CommitWaitStore x = new CommitWaitStore();
        counts(x, 0, 0, 0, 0);
        for (int i = 0; i < 10; i++) {
            x.begin(i % 3);
        }
        counts(x, 10, 0, 0, 0);
        for (int i = 0; i < 4; i++) {
            x.commit(i);
        }
        x.abort(9);
        counts(x, 5, 4, 0, 1);
        x.advance(100);
        x.commit(5);
        x.abort(8);
        x.abort(7);
        counts(x, 2, 1, 4, 3);
        for (int state : new int[] {-1, 4, 2147483647, -2147483648}) {
            Check.argument("countInState", () -> x.countInState(state));
        }
    }

    private static void totalWait() {
        CommitWaitStore x = new CommitWaitStore();
        x.commit(x.begin(0));
        Check.due("a waiting one does not count", x.totalWait(), 0);
        x.advance(11);
        Check.due("totalWait()", x.totalWait(), 0);
        x.advance(1);
        Check.due("totalWait()", x.totalWait(), 12);
        x.commit(x.begin(1));
        x.advance(500);
        // At 12 the timestamp is 18, which the earliest time passes at 25.
        Check.due("totalWait()", x.totalWait(), 25);
        x.undo();
        Check.due("totalWait() after undo", x.totalWait(), 12);
    }

    private static void unsoundUses() {
        CommitWaitStore x = new CommitWaitStore();
        x.commit(x.begin(0));
        Check.due("a sound clock", x.unsoundUses(), 0);
        x.synchronize(1, 6);
        int a = x.begin(1);
        x.read(a, 0);
        x.write(a, 1, 1);
        Check.due("begin, read and write use no clock", x.unsoundUses(), 0);
        x.ifCommitted(a);
        Check.due("a query uses no clock", x.unsoundUses(), 0);
        x.commit(a);
        Check.due("an unsound request", x.unsoundUses(), 1);
        int locked = Check.writer(x, 1, 1, 1);
        x.commit(locked);
        Check.due("a refused request uses no clock", x.unsoundUses(), 1);
        x.synchronize(1, 0);
        x.advance(100);
        Check.due("a sound commit", x.unsoundUses(), 1);
        int reader = x.begin(1);
        x.read(reader, 5);
        x.commit(Check.writer(x, 2, 5, 5));
        x.synchronize(2, 400);
        x.advance(1);
        Check.due("an unsound commit", x.unsoundUses(), 2);
        x.synchronize(1, -300);
        Check.due("commit", x.commit(reader), CommitWaitStore.CONFLICT);
        Check.due("a conflict uses no clock", x.unsoundUses(), 2);
        x.undo();
        x.undo();
        x.undo();
        Check.due("unsoundUses() after undo", x.unsoundUses(), 1);
        soundWhenCommitted();
    }

    /** What counts is the clock at the tick of the commit, not at the end of the call. */
    private static void soundWhenCommitted() {
        CommitWaitStore x = new CommitWaitStore();
        x.setUncertainty(0, 5, 0);
        x.setDrift(0, 100);
        x.commit(x.begin(0));
        Check.due("advance", x.advance(1000), 1);
        Check.due("isSound(0)", x.isSound(0), false);
        Check.due("the clock was sound then", x.unsoundUses(), 0);
        CommitWaitStore y = new CommitWaitStore();
        y.setUncertainty(0, 5, 100);
        y.synchronize(0, 8);
        y.setUncertainty(0, 0, 100);
        int a = y.begin(0);
        Check.due("commit", y.commit(a), 8);
        Check.due("unsoundUses()", y.unsoundUses(), 1);
        Check.due("advance", y.advance(1000), 1);
        Check.due("isSound(0)", y.isSound(0), true);
        Check.due("the clock was unsound then", y.unsoundUses(), 2);
    }

    private static void inversions() {
        CommitWaitStore x = new CommitWaitStore();
        x.synchronize(0, 400);
        int a = Check.writer(x, 0, 0, 1);
        Check.due("commit", x.commit(a), 405);
        x.synchronize(0, 500);
        Check.due("advance(1)", x.advance(1), 1);
        Check.due("inversions()", x.inversions(), 0);
        int b = Check.writer(x, 1, 1, 1);
        Check.due("inversions() with an open one", x.inversions(), 0);
        Check.due("commit at the commit time of the other", x.commit(b), 7);
        Check.due("inversions() with a waiting one", x.inversions(), 1);
        x.advance(50);
        Check.due("inversions() with a committed one", x.inversions(), 1);
        int c = Check.writer(x, 1, 0, 1);
        Check.due("behind the version it writes over", x.commit(c), 406);
        Check.due("inversions()", x.inversions(), 1);
        int d = Check.writer(x, 2, 2, 1);
        Check.due("commit", x.commit(d), 57);
        Check.due("inversions()", x.inversions(), 2);
        x.advance(600);
        Check.due("inversions()", x.inversions(), 2);
        theFirstTransactionBehind();
        equalTimestamps();
    }

    private static void theFirstTransactionBehind() {
        CommitWaitStore x = new CommitWaitStore();
        int first = x.begin(1);
        x.synchronize(0, 400);
        Check.due("commit", x.commit(x.begin(0)), 405);
        x.synchronize(0, 500);
        x.advance(1);
        Check.due("commit", x.commit(first), 7);
        Check.due("inversions()", x.inversions(), 1);
    }

    private static void equalTimestamps() {
        CommitWaitStore x = new CommitWaitStore();
        x.synchronize(0, 2);
        x.setUncertainty(0, 0, 0);
        x.setUncertainty(1, 1, 0);
        int a = x.begin(0);
        Check.due("commit", x.commit(a), 2);
        int overlapping = x.begin(2);
        x.synchronize(2, -3);
        Check.due("commit before the other is committed", x.commit(overlapping), 2);
        Check.due("advance(1)", x.advance(1), 1);
        int b = x.begin(1);
        Check.due("commit with the same timestamp", x.commit(b), 2);
        Check.due("inversions() of equal timestamps", x.inversions(), 1);
    }
}
