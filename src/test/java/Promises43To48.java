/** Promises 43 to 48: the counts over the whole store. */
final class Promises43To48 {
    private Promises43To48() {
    }

    static void test(Sentences s) {
        countInState(s);
        totalWait(s);
        unsoundUses(s);
        inversions(s);
        inversionStates(s);
        inversionBounds(s);
        savedStates(s);
        textLength(s);
    }

    private static void counts(CommitWaitStore x, int... due) {
        for (int state = 0; state < 4; state++) {
            Check.due("countInState(" + state + ")", x.countInState(state), due[state]);
        }
    }

    private static void countInState(Sentences s) {
        s.at("Promise 43");
        s.says("Counts the transactions in a state.", x -> {
            counts(x, 0, 0, 0, 0);
            for (int i = 0; i < 40; i++) {
                x.begin(i % 3);
            }
            counts(x, 40, 0, 0, 0);
            x.commit(0);
            x.commit(39);
            x.abort(1);
            counts(x, 37, 2, 0, 1);
            x.advance(12);
            counts(x, 37, 1, 1, 1);
            x.advance(1);
            counts(x, 37, 0, 2, 1);
            x.commit(38);
            counts(x, 36, 1, 2, 1);
            x.undo();
            x.undo();
            counts(x, 37, 1, 1, 1);
        });
        s.says("`state`: OPEN, WAITING, COMMITTED or ABORTED", x -> {
            x.begin(0);
            Check.due("countInState(OPEN)", x.countInState(CommitWaitStore.OPEN), 1);
            x.commit(0);
            Check.due("countInState(WAITING)", x.countInState(CommitWaitStore.WAITING), 1);
            x.advance(12);
            Check.due("countInState(COMMITTED)", x.countInState(CommitWaitStore.COMMITTED), 1);
            x.abort(x.begin(0));
            Check.due("countInState(ABORTED)", x.countInState(CommitWaitStore.ABORTED), 1);
        });
        s.says("Returns the number of transactions in this state.", x -> {
            for (int i = 0; i < 40; i++) {
                x.commit(x.begin(0));
                Check.due("countInState(WAITING)", x.countInState(CommitWaitStore.WAITING), i + 1);
            }
            for (int i = 1; i <= 40; i++) {
                x.advance(i == 1 ? 12 : 1);
                Check.due("countInState(WAITING)", x.countInState(CommitWaitStore.WAITING), 40 - i);
                Check.due("countInState(COMMITTED)", x.countInState(CommitWaitStore.COMMITTED), i);
            }
        });
        s.says("Throws `IllegalArgumentException` if the state is none of these", x ->
                Check.range("countInState", 0, 3, Check.ARGUMENT, n -> x.countInState(n)));
    }

    private static void totalWait(Sentences s) {
        s.at("Promise 44");
        s.says("Returns the sum of (commit time - request time) over all committed transactions.", x -> {
            Check.due("totalWait() at first", x.totalWait(), 0);
            x.begin(0);
            x.abort(x.begin(0));
            x.commit(x.begin(0));
            x.advance(11);
            Check.due("totalWait(), none is committed", x.totalWait(), 0);
            x.commit(x.begin(1));
            x.advance(1);
            Check.due("totalWait(), the first has waited for 12", x.totalWait(), 12);
            x.commit(0);
            x.advance(1000);
            // The second gets 17 at 11 and is committed at 24; the third gets 18 at 12, committed at 25.
            Check.due("totalWait(), all three", x.totalWait(), 12 + 13 + 13);
            x.undo();
            Check.due("totalWait() after undo()", x.totalWait(), 12);
        });
        s.says("over all committed transactions.", x -> {
            for (int i = 0; i < 40; i++) {
                x.commit(x.begin(0));
            }
            x.advance(1000);
            // The waits are 12 to 51.
            Check.due("totalWait() of 40", x.totalWait(), 40 * (12 + 51) / 2);
        });
        s.says("over all committed transactions.", x -> {
            x.synchronize(0, 500);
            x.setUncertainty(0, 0, 0);
            for (int i = 0; i < 2; i++) {
                x.commit(x.begin(0));
            }
            x.advance(1);
            Check.due("totalWait() of the shortest wait", x.totalWait(), 1);
            x.advance(1);
            Check.due("totalWait() of two", x.totalWait(), 3);
        });
    }

    private static void unsoundUses(Sentences s) {
        s.at("Promise 45");
        s.says("Returns the number of unsound uses of clocks so far (section 4).", x -> {
            Check.due("unsoundUses() at first", x.unsoundUses(), 0);
            x.synchronize(0, 5);
            x.commit(x.begin(0));
            Check.due("unsoundUses(), the clock is sound", x.unsoundUses(), 0);
            x.synchronize(0, 6);
            x.commit(x.begin(0));
            Check.due("unsoundUses(), the clock is not sound", x.unsoundUses(), 1);
            x.synchronize(0, 500);
            x.advance(1);
            Check.due("unsoundUses() after two commits", x.unsoundUses(), 3);
            x.undo();
            Check.due("unsoundUses() after undo()", x.unsoundUses(), 1);
        });
        s.says("Returns the number of unsound uses of clocks so far", x -> {
            x.synchronize(1, 500);
            for (int i = 1; i <= 40; i++) {
                x.commit(x.begin(1));
                Check.due("unsoundUses()", x.unsoundUses(), i);
            }
            x.advance(1000);
            Check.due("unsoundUses(), the most", x.unsoundUses(), 80);
        });
    }

    /** At 1 a transaction of the timestamp 2 is committed; it was asked for at 0. */
    private static void commitFirst(CommitWaitStore x) {
        x.setUncertainty(0, 0, 0);
        x.setUncertainty(1, 0, 0);
        x.synchronize(0, 2);
        Check.due("commit of a", x.commit(x.begin(0)), 2);
    }

    private static void inversions(Sentences s) {
        s.at("Promise 46");
        s.says("Returns the number of ordered pairs (a, b) of transactions such that", x -> {
            Check.due("inversions() at first", x.inversions(), 0);
            x.synchronize(0, 500);
            for (int i = 0; i < 20; i++) {
                x.commit(x.begin(0));
            }
            x.synchronize(0, 500);
            x.setUncertainty(0, 0, 0);
            // The timestamps are 505 to 524, and the clock passes them at 6 to 25.
            x.advance(100);
            for (int i = 1; i <= 20; i++) {
                x.commit(x.begin(1));
                Check.due("inversions()", x.inversions(), 20 * i);
            }
            x.advance(1000);
            Check.due("inversions(), the most", x.inversions(), 400);
        });
        s.says("ordered pairs (a, b) of transactions", x -> {
            // The first transaction is b, the second one is a.
            int b = x.begin(1);
            x.setUncertainty(0, 0, 0);
            x.synchronize(0, 50);
            x.commit(x.begin(0));
            x.advance(1);
            Check.due("inversions() before", x.inversions(), 0);
            x.commit(b);
            Check.due("inversions()", x.inversions(), 1);
        });
    }

    private static void inversionStates(Sentences s) {
        s.says("a is committed,", x -> {
            x.synchronize(0, 100);
            x.commit(x.begin(0));
            x.advance(1);
            x.commit(x.begin(1));
            Check.due("inversions(), a waits", x.inversions(), 0);
            x.advance(400);
            Check.due("inversions(), a was committed after the request of b", x.inversions(), 0);
            x.abort(x.begin(0));
            x.begin(0);
            x.synchronize(1, -500);
            Check.due("commit of another b", x.commit(x.begin(1)), 8);
            Check.due("inversions(), a is committed", x.inversions(), 1);
        });
        s.says("b is waiting or committed,", x -> {
            commitFirst(x);
            x.advance(1);
            int b = Check.reader(x, 1, 0);
            Check.due("inversions(), b is open", x.inversions(), 0);
            x.abort(x.begin(1));
            Check.due("inversions(), b is aborted", x.inversions(), 0);
            x.commit(b);
            Check.due("inversions(), b is waiting", x.inversions(), 1);
            x.advance(1);
            Check.due("state", x.state(b), CommitWaitStore.COMMITTED);
            Check.due("inversions(), b is committed", x.inversions(), 1);
        });
    }

    private static void inversionBounds(Sentences s) {
        s.says("the commit time of a is at most the request time of b,", x -> {
            commitFirst(x);
            Check.due("commit of b at 0", x.commit(x.begin(1)), 1);
            Check.due("advance(1)", x.advance(1), 1);
            Check.due("commitTime of a", x.commitTime(0), 1);
            Check.due("inversions(), b was asked for a tick before", x.inversions(), 0);
            x.synchronize(1, -1);
            Check.due("commit of b at 1", x.commit(x.begin(1)), 2);
            Check.due("inversions(), b was asked for at that tick", x.inversions(), 1);
        });
        s.says("and the commit timestamp of a is at least the commit timestamp of b.", x -> {
            for (int timestamp = 1; timestamp <= 3; timestamp++) {
                CommitWaitStore y = new CommitWaitStore();
                commitFirst(y);
                Check.due("advance(1)", y.advance(1), 1);
                y.synchronize(1, timestamp - 1);
                Check.due("commit of b", y.commit(y.begin(1)), timestamp);
                Check.due("inversions(), 2 before " + timestamp, y.inversions(), timestamp <= 2 ? 1 : 0);
            }
        });
    }

    private static void savedStates(Sentences s) {
        s.at("Promise 47");
        s.says("Returns the number of saved states.", x -> {
            Check.due("savedStates() at first", x.savedStates(), 0);
            for (int i = 1; i <= 20; i++) {
                x.begin(0);
                Check.due("savedStates()", x.savedStates(), Math.min(i, 6));
            }
            for (int left = 5; left >= 0; left--) {
                x.undo();
                Check.due("savedStates()", x.savedStates(), left);
            }
            Check.illegalState("undo()", x::undo);
            Check.due("savedStates() after a refused undo", x.savedStates(), 0);
            x.save(0);
            Check.due("savedStates() after save(0)", x.savedStates(), 0);
            x.restore(0);
            Check.due("savedStates() after restore(0)", x.savedStates(), 1);
        });
    }

    private static void textLength(Sentences s) {
        s.at("Promise 48");
        s.says("Returns the length of the text.", x -> {
            for (int length = 0; length < 80; length++) {
                Check.due("textLength()", x.textLength(), length);
                x.appendText('b');
            }
            Check.due("textLength(), the greatest", x.textLength(), 80);
            Check.illegalState("appendText", () -> x.appendText('b'));
            Check.argument("appendText(31)", () -> x.appendText(31));
            Check.due("textLength() after refused characters", x.textLength(), 80);
            x.clearText();
            Check.due("textLength() after clearText()", x.textLength(), 0);
        });
    }
}
