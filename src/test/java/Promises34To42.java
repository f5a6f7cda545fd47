/** Promises 34 to 42: the queries about keys, the safe time, the read floor. */
final class Promises34To42 {
    private static final int NONE = CommitWaitStore.NONE;
    private static final String NO_KEY = "Throws `IndexOutOfBoundsException` if there is no such key";

    private Promises34To42() {
    }

    static void test(Sentences s) {
        versions(s);
        versionTimestamp(s);
        valueAt(s);
        replayedValueAt(s);
        replayOrder(s);
        waitingWriter(s);
        readerMark(s);
        safeTime(s);
        readFloor(s);
        ticksUntilSafe(s);
        ticksUntilSafeOfWaiting(s);
        ticksUntilSafeAnswers(s);
    }

    /** A query about a key. */
    private interface OnKey {
        long answer(CommitWaitStore store, int key);
    }

    private static void ofKey(Sentences s, String call, OnKey query) {
        s.says("`key`: 0 to 7", x -> {
            x.commit(Check.writer(x, 0, 0, 3));
            x.commit(Check.writer(x, 1, 7, 3));
            x.advance(12);
            long untouched = query.answer(x, 3);
            for (int key = 1; key < 7; key++) {
                Check.due(call + ", key " + key, query.answer(x, key), untouched);
            }
            Check.due(call + ", keys 0 and 7", query.answer(x, 0), query.answer(x, 7));
        });
        s.says(NO_KEY, x -> Check.range(call, 0, 7, Check.INDEX, n -> query.answer(x, n)));
    }

    /** Two versions more for key 6: the value 9999 at 5 and the value 8 at 18. The true time is 32. */
    private static void makeVersions(CommitWaitStore x) {
        x.commit(Check.writer(x, 0, 6, 9999));
        x.advance(12);
        x.commit(Check.writer(x, 0, 6, 8));
        x.advance(20);
    }

    private static void versions(Sentences s) {
        s.at("Promise 34");
        s.says("Returns the number of versions of a key.", x -> {
            Check.due("versions, the least", x.versions(0), 1);
            makeVersions(x);
            Check.due("versions of a key that is written twice", x.versions(6), 3);
            Check.due("versions of another key", x.versions(5), 1);
        });
        s.says("Returns the number of versions.", x -> {
            for (int i = 0; i < 40; i++) {
                x.commit(Check.writer(x, 0, 7, i));
                Check.due("versions while the writer waits", x.versions(7), i + 1);
                Check.due("advance", x.advance(20), 1);
                Check.due("versions", x.versions(7), i + 2);
            }
            Check.due("valueAt, the last", x.valueAt(7, Check.MOST), 39);
            x.undo();
            Check.due("versions after undo()", x.versions(7), 40);
        });
        ofKey(s, "versions", (x, key) -> x.versions(key));
    }

    private static void versionTimestamp(Sentences s) {
        s.at("Promise 35");
        s.says("Returns the timestamp of a version of a key.", x -> {
            makeVersions(x);
            Check.due("versionTimestamp(6, 1)", x.versionTimestamp(6, 1), 5);
            Check.due("versionTimestamp(5, 0)", x.versionTimestamp(5, 0), 0);
        });
        s.says("`index`: the index of the version in ascending order of timestamps, from 0", x -> {
            makeVersions(x);
            int[] due = {0, 5, 18};
            for (int index = 0; index < 3; index++) {
                Check.due("versionTimestamp(6, " + index + ")", x.versionTimestamp(6, index), due[index]);
            }
        });
        s.says("Returns the timestamp.", x -> {
            for (int i = 0; i < 40; i++) {
                x.commit(Check.writer(x, i % 3, 0, 1));
                x.advance(50);
            }
            for (int index = 1; index <= 40; index++) {
                Check.due("versionTimestamp(0, " + index + ")", x.versionTimestamp(0, index), x.timestamp(index - 1));
            }
            Check.index("versionTimestamp(0, 41)", () -> x.versionTimestamp(0, 41));
        });
        s.says("`key`: 0 to 7", x -> Check.range("versionTimestamp", 0, 7, Check.INDEX, n -> x.versionTimestamp(n, 0)));
        s.says("Throws `IndexOutOfBoundsException` if there is no such key or no such version", x -> {
            Check.range("versionTimestamp, key", 0, 7, Check.INDEX, n -> x.versionTimestamp(n, 0));
            Check.range("versionTimestamp, one version", 0, 0, Check.INDEX, n -> x.versionTimestamp(6, n));
            makeVersions(x);
            Check.range("versionTimestamp, three versions", 0, 2, Check.INDEX, n -> x.versionTimestamp(6, n));
            Check.range("versionTimestamp, another key", 0, 0, Check.INDEX, n -> x.versionTimestamp(5, n));
            x.undo();
            Check.range("versionTimestamp, two versions", 0, 1, Check.INDEX, n -> x.versionTimestamp(6, n));
        });
    }

    private static void valueAt(Sentences s) {
        s.at("Promise 36");
        s.says("Returns the value of a key at a timestamp.", x -> {
            makeVersions(x);
            Check.due("valueAt(6, 17)", x.valueAt(6, 17), 9999);
            Check.due("valueAt(5, 17)", x.valueAt(5, 17), 0);
        });
        s.says("The safe time does not matter, and the read floor does not change.", x -> {
            x.commit(Check.writer(x, 0, 6, 5));
            Check.due("safeTime()", x.safeTime(), 4);
            Check.due("valueAt above the safe time", x.valueAt(6, 5), 0);
            Check.due("valueAt far above the safe time", x.valueAt(6, Check.MOST), 0);
            Check.due("readFloor()", x.readFloor(), 0);
            Check.due("safeTime()", x.safeTime(), 4);
            Check.due("savedStates()", x.savedStates(), 3);
        });
        s.says("`timestamp`: 0 or more", x -> Check.notNegative("valueAt", n -> x.valueAt(6, n)));
        s.says("Returns the value of the key at the timestamp.", x -> {
            makeVersions(x);
            int[] at = {0, 1, 4, 5, 6, 17, 18, 19, Check.MOST};
            int[] due = {0, 0, 0, 9999, 9999, 9999, 8, 8, 8};
            for (int i = 0; i < at.length; i++) {
                Check.due("valueAt(6, " + at[i] + ")", x.valueAt(6, at[i]), due[i]);
            }
        });
        ofKey(s, "valueAt", (x, key) -> x.valueAt(key, 100));
        s.says("Throws `IllegalArgumentException` if the timestamp is negative", x -> {
            makeVersions(x);
            Check.notNegative("valueAt", n -> x.valueAt(6, n));
        });
    }

    private static void replayedValueAt(Sentences s) {
        s.at("Promise 37");
        s.says("Computes the value of a key at a timestamp by a replay:", x -> {
            makeVersions(x);
            Check.due("replayedValueAt(6, 17)", x.replayedValueAt(6, 17), 9999);
            Check.due("replayedValueAt(5, 17)", x.replayedValueAt(5, 17), 0);
            Check.due("readFloor()", x.readFloor(), 0);
        });
        s.says("starting from the value 0, the committed transactions with a commit timestamp of at most the given "
                + "timestamp are applied", x -> {
            makeVersions(x);
            int[] at = {0, 1, 4, 5, 6, 17, 18, 19, Check.MOST};
            int[] due = {0, 0, 0, 9999, 9999, 9999, 8, 8, 8};
            for (int i = 0; i < at.length; i++) {
                Check.due("replayedValueAt(6, " + at[i] + ")", x.replayedValueAt(6, at[i]), due[i]);
            }
        });
        s.says("the committed transactions", x -> {
            x.write(x.begin(0), 6, 1);
            x.abort(Check.writer(x, 0, 6, 2));
            x.commit(Check.writer(x, 0, 6, 3));
            x.advance(11);
            Check.due("replayedValueAt, none is committed", x.replayedValueAt(6, Check.MOST), 0);
            x.advance(1);
            Check.due("replayedValueAt, one is committed", x.replayedValueAt(6, Check.MOST), 3);
        });
        s.says("each one that has written the key replaces the value by its buffered value.", x -> {
            makeVersions(x);
            int other = Check.writer(x, 0, 5, 7);
            x.read(other, 6);
            x.commit(other);
            x.advance(20);
            Check.due("replayedValueAt, the last one has not written the key", x.replayedValueAt(6, Check.MOST), 8);
            x.commit(Check.writer(x, 0, 6, 0));
            x.advance(20);
            Check.due("replayedValueAt, the last one has written 0", x.replayedValueAt(6, Check.MOST), 0);
        });
        s.says("`timestamp`: 0 or more", x -> Check.notNegative("replayedValueAt", n -> x.replayedValueAt(6, n)));
        s.says("Returns the value at the end of the replay.", x -> {
            for (int i = 0; i < 40; i++) {
                x.commit(Check.writer(x, 0, i % 2, 100 + i));
                x.advance(20);
            }
            for (int i = 0; i < 40; i++) {
                int timestamp = x.timestamp(i);
                Check.due("replayedValueAt", x.replayedValueAt(i % 2, timestamp), 100 + i);
                Check.due("replayedValueAt of the other key", x.replayedValueAt(1 - i % 2, timestamp), i == 0 ? 0 : 99 + i);
            }
        });
        ofKey(s, "replayedValueAt", (x, key) -> x.replayedValueAt(key, 100));
        s.says("Throws `IllegalArgumentException` if the timestamp is negative", x -> {
            makeVersions(x);
            Check.notNegative("replayedValueAt", n -> x.replayedValueAt(6, n));
        });
    }

    private static void replayOrder(Sentences s) {
        s.says("in ascending order of their commit timestamps", x -> {
            // The higher the number, the lower the timestamp.
            for (int i = 0; i < 3; i++) {
                Check.writer(x, 0, 6, 10 + i);
            }
            int[] timestamps = {31, 18, 5};
            int[] ticks = {20, 13, 12};
            for (int t = 2; t >= 0; t--) {
                Check.due("commit", x.commit(t), timestamps[t]);
                Check.due("advance", x.advance(ticks[t]), 1);
            }
            int[] at = {4, 5, 17, 18, 30, 31};
            int[] due = {0, 12, 12, 11, 11, 10};
            for (int i = 0; i < at.length; i++) {
                Check.due("replayedValueAt(6, " + at[i] + ")", x.replayedValueAt(6, at[i]), due[i]);
            }
        });
        s.says("(of equal timestamps the lower transaction number first);", x -> {
            // Writers of one key never have equal timestamps; those of two keys may.
            Check.due("commit", x.commit(Check.writer(x, 0, 0, 3)), 5);
            Check.due("commit", x.commit(Check.writer(x, 1, 1, 4)), 5);
            int both = Check.writer(x, 2, 2, 5);
            x.read(both, 3);
            Check.due("commit", x.commit(both), 5);
            x.advance(12);
            for (int key = 0; key < 4; key++) {
                Check.due("replayedValueAt 4, key " + key, x.replayedValueAt(key, 4), 0);
                Check.due("replayedValueAt 5, key " + key, x.replayedValueAt(key, 5), key == 3 ? 0 : 3 + key);
            }
        });
    }

    private static void waitingWriter(Sentences s) {
        s.at("Promise 38");
        s.says("Returns the waiting transaction that has written a key.", x -> {
            x.begin(0);
            x.commit(Check.writer(x, 0, 7, 1));
            x.commit(Check.writer(x, 0, 6, 1));
            Check.due("waitingWriter(7)", x.waitingWriter(7), 1);
            Check.due("waitingWriter(6)", x.waitingWriter(6), 2);
        });
        s.says("Returns the number of the transaction (there is at most one);", x -> {
            for (int i = 0; i < 40; i++) {
                x.write(x.begin(0), 0, i);
                x.write(i, 1 + i % 2, i);
            }
            x.commit(0);
            Check.due("waitingWriter, the least number", x.waitingWriter(0), 0);
            Check.due("commit of a second writer", x.commit(39), CommitWaitStore.LOCKED);
            Check.due("waitingWriter, still the first", x.waitingWriter(0), 0);
            x.advance(12);
            x.commit(39);
            Check.due("waitingWriter, the greatest number", x.waitingWriter(0), 39);
            Check.due("waitingWriter(2)", x.waitingWriter(2), 39);
            Check.due("waitingWriter(1)", x.waitingWriter(1), NONE);
        });
        s.says("NONE if there is none.", x -> {
            Check.due("waitingWriter at first", x.waitingWriter(0), NONE);
            int t = Check.writer(x, 0, 0, 1);
            x.read(t, 1);
            Check.due("waitingWriter, it is open", x.waitingWriter(0), NONE);
            x.commit(t);
            Check.due("waitingWriter, it waits", x.waitingWriter(0), t);
            Check.due("waitingWriter of a key that it has read", x.waitingWriter(1), NONE);
            x.advance(11);
            Check.due("waitingWriter, the last tick of the wait", x.waitingWriter(0), t);
            x.advance(1);
            Check.due("waitingWriter, it is committed", x.waitingWriter(0), NONE);
            x.abort(Check.writer(x, 0, 0, 1));
            Check.due("waitingWriter, it is aborted", x.waitingWriter(0), NONE);
        });
        ofKey(s, "waitingWriter", (x, key) -> x.waitingWriter(key));
    }

    private static void readerMark(Sentences s) {
        s.at("Promise 39");
        s.says("Returns the reader mark of a key (section 4).", x -> {
            int t = Check.reader(x, 0, 7);
            Check.due("readerMark, the reader is open", x.readerMark(7), 0);
            x.commit(t);
            x.advance(11);
            Check.due("readerMark, the reader waits", x.readerMark(7), 0);
            x.advance(1);
            Check.due("readerMark, the reader is committed", x.readerMark(7), 5);
            Check.due("readerMark of another key", x.readerMark(6), 0);
            x.undo();
            Check.due("readerMark after undo()", x.readerMark(7), 0);
        });
        s.says("Returns the reader mark.", x -> {
            for (int i = 0; i < 40; i++) {
                Check.reader(x, 0, i % 2);
            }
            for (int i = 39; i >= 0; i--) {
                x.commit(i);
            }
            // The timestamps are 5 for the transaction 39, up to 44 for the transaction 0.
            x.advance(1000);
            Check.due("readerMark(0), of the first transaction", x.readerMark(0), 44);
            Check.due("readerMark(1), of the second one", x.readerMark(1), 43);
            Check.due("readerMark(2)", x.readerMark(2), 0);
        });
        s.says("Returns the reader mark.", x -> {
            for (int i = 0; i < 40; i++) {
                x.commit(Check.reader(x, 0, 7));
            }
            x.advance(50);
            Check.due("readerMark(7), 39 are committed", x.readerMark(7), 43);
            x.advance(1);
            Check.due("readerMark(7), of the last transaction", x.readerMark(7), 44);
        });
        ofKey(s, "readerMark", (x, key) -> x.readerMark(key));
    }

    private static void safeTime(Sentences s) {
        s.at("Promise 40");
        s.says("Returns the safe time (section 5).", x -> {
            Check.due("safeTime() at first", x.safeTime(), 4);
            x.synchronize(1, -500);
            Check.due("safeTime(), the least", x.safeTime(), 0);
            x.synchronize(1, 0);
            x.commit(x.begin(0));
            x.advance(11);
            Check.due("safeTime(), 5 waits", x.safeTime(), 4);
            x.advance(1);
            Check.due("safeTime(), 5 is committed", x.safeTime(), 17);
        });
    }

    private static void readFloor(Sentences s) {
        s.at("Promise 41");
        s.says("Returns the read floor (section 5).", x -> {
            Check.due("readFloor(), the least", x.readFloor(), 0);
            x.snapshotRead(0, 4);
            Check.due("readFloor()", x.readFloor(), 4);
            x.snapshotRead(0, 3);
            Check.due("readFloor()", x.readFloor(), 4);
            x.undo();
            x.undo();
            Check.due("readFloor() after undo()", x.readFloor(), 0);
        });
    }

    /** Goes on tick by tick to see that the timestamp becomes safe when it was told to, and no tick before. */
    private static void becomesSafe(CommitWaitStore x, int timestamp, int ticks) {
        Check.due("ticksUntilSafe(" + timestamp + ")", x.ticksUntilSafe(timestamp), ticks);
        if (ticks > 1) {
            x.advance(ticks - 1);
            Check.due("ticksUntilSafe(" + timestamp + "), one tick before", x.ticksUntilSafe(timestamp), 1);
        }
        if (ticks > 0) {
            Check.illegalState("snapshotRead one tick before", () -> x.snapshotRead(0, timestamp));
            x.advance(1);
        }
        Check.due("ticksUntilSafe(" + timestamp + "), then", x.ticksUntilSafe(timestamp), 0);
        Check.taken("snapshotRead then", () -> x.snapshotRead(0, timestamp));
    }

    private static void ticksUntilSafe(Sentences s) {
        s.at("Promise 42");
        s.says("Tells in how many ticks a snapshot read at a timestamp is possible if only the true time advances", x -> {
            // The latest time after n ticks is n + 6.
            becomesSafe(new CommitWaitStore(), 4, 0);
            becomesSafe(new CommitWaitStore(), 5, 1);
            becomesSafe(new CommitWaitStore(), 6, 1);
            becomesSafe(new CommitWaitStore(), 7, 2);
            becomesSafe(new CommitWaitStore(), 505, 500);
            // A tick more brings two more here.
            becomesSafe(new CommitWaitStore(), 506, 501);
            becomesSafe(new CommitWaitStore(), 507, 501);
            becomesSafe(new CommitWaitStore(), 508, 502);
            for (int server = 0; server < 3; server++) {
                CommitWaitStore y = new CommitWaitStore();
                y.synchronize(server, -10);
                becomesSafe(y, 5, 10);
            }
        });
        s.says("(waiting transactions become committed meanwhile, as described in section 4).", x -> {
            x.synchronize(1, 100);
            x.commit(x.begin(0));
            x.commit(x.begin(1));
            // The timestamps are 5 and 105; both clocks pass them at 12.
            Check.due("ticksUntilSafe below both", x.ticksUntilSafe(4), 0);
            Check.due("ticksUntilSafe(16)", x.ticksUntilSafe(16), 12);
            Check.due("ticksUntilSafe(17)", x.ticksUntilSafe(17), 12);
            Check.due("ticksUntilSafe(18), the clocks are later", x.ticksUntilSafe(18), 13);
            x.synchronize(0, -500);
            Check.due("ticksUntilSafe(0)", x.ticksUntilSafe(0), 0);
            Check.due("ticksUntilSafe(5), it waits longer", x.ticksUntilSafe(5), 513);
            Check.due("countInState(WAITING)", x.countInState(CommitWaitStore.WAITING), 2);
        });
        s.says("as described in section 4).", x -> {
            CommitWaitStore y = new CommitWaitStore();
            y.commit(y.begin(0));
            becomesSafe(y, 5, 12);
            CommitWaitStore z = new CommitWaitStore();
            z.commit(z.begin(0));
            becomesSafe(z, 17, 12);
            CommitWaitStore w = new CommitWaitStore();
            w.commit(w.begin(0));
            w.synchronize(0, 500);
            becomesSafe(w, 5, 1);
        });
        s.says("The limit of the true time is ignored.", x -> {
            CommitWaitStore y = Check.storeAt(1000000);
            for (int server = 0; server < 3; server++) {
                y.synchronize(server, 0);
            }
            Check.due("ticksUntilSafe at the limit", y.ticksUntilSafe(1000004), 0);
            Check.due("ticksUntilSafe, one tick behind the limit", y.ticksUntilSafe(1000005), 1);
            Check.due("ticksUntilSafe, 10000 ticks behind the limit", y.ticksUntilSafe(1010024), 10000);
            y.commit(y.begin(0));
            Check.due("ticksUntilSafe of the one that waits", y.ticksUntilSafe(1000005), 12);
        });
        s.says("`timestamp`: 0 or more", x -> Check.notNegative("ticksUntilSafe", n -> x.ticksUntilSafe(n)));
        s.says("Throws `IllegalArgumentException` if the timestamp is negative", x -> {
            Check.argument("ticksUntilSafe(-1)", () -> x.ticksUntilSafe(-1));
            Check.argument("ticksUntilSafe(least number)", () -> x.ticksUntilSafe(Check.LEAST));
            Check.due("ticksUntilSafe(0)", x.ticksUntilSafe(0), 0);
        });
    }

    private static void ticksUntilSafeOfWaiting(Sentences s) {
        s.says("(waiting transactions become committed meanwhile,", x -> {
            for (int i = 0; i < 40; i++) {
                x.begin(0);
            }
            x.commit(39);
            Check.due("ticksUntilSafe(5), the last transaction waits", x.ticksUntilSafe(5), 12);
            x.undo();
            Check.due("ticksUntilSafe(5), it is open again", x.ticksUntilSafe(5), 1);
            x.commit(0);
            Check.due("ticksUntilSafe(5), the first transaction waits", x.ticksUntilSafe(5), 12);
        });
        s.says("(waiting transactions become committed meanwhile,", x -> {
            x.commit(x.begin(0));
            x.undo();
            x.undo();
            Check.due("ticksUntilSafe(5), the one that waited is undone", x.ticksUntilSafe(5), 1);
            x.abort(x.begin(0));
            Check.due("ticksUntilSafe(5), one is aborted", x.ticksUntilSafe(5), 1);
        });
    }

    private static void ticksUntilSafeAnswers(Sentences s) {
        s.says("Returns the smallest number n of ticks, 0 to 10000, after which the timestamp is at most the safe time;", x -> {
            // The latest time after n ticks is n + 5 + n / 500, rounded up.
            Check.due("ticksUntilSafe(4), the least", x.ticksUntilSafe(4), 0);
            Check.due("ticksUntilSafe(5)", x.ticksUntilSafe(5), 1);
            Check.due("ticksUntilSafe(10023)", x.ticksUntilSafe(10023), 9999);
            Check.due("ticksUntilSafe(10024), the greatest", x.ticksUntilSafe(10024), 10000);
            Check.due("ticksUntilSafe(10025)", x.ticksUntilSafe(10025), NONE);
        });
        s.says("Returns the smallest number n of ticks, 0 to 10000,", x -> {
            // Here each tick is the first of a new latest time for one to three timestamps.
            x.setUncertainty(1, 0, 100);
            x.setDrift(1, 100);
            x.setUncertainty(0, 500, 0);
            x.setUncertainty(2, 500, 0);
            int[] at = {0, 1, 2, 9, 10, 11, 12, 13, 14};
            int[] due = {0, 1, 2, 9, 10, 10, 11, 11, 12};
            for (int i = 0; i < at.length; i++) {
                Check.due("ticksUntilSafe(" + at[i] + ")", x.ticksUntilSafe(at[i]), due[i]);
            }
        });
        s.says("Returns the smallest number n of ticks,", x -> {
            // Offset and uncertainty rise at the same tick: the latest time is 11 at 10, and 14 at 11.
            x.setUncertainty(0, 0, 100);
            x.setUncertainty(1, 500, 0);
            x.setUncertainty(2, 500, 0);
            x.advance(1);
            x.setDrift(0, 100);
            x.advance(9);
            Check.due("latest(0)", x.latest(0), 11);
            int[] at = {10, 11, 12, 13, 14, 22, 23, 24, 25, 26};
            int[] due = {0, 1, 1, 1, 2, 10, 11, 11, 11, 12};
            for (int i = 0; i < at.length; i++) {
                Check.due("ticksUntilSafe(" + at[i] + ")", x.ticksUntilSafe(at[i]), due[i]);
            }
        });
        s.says("NONE if there is no such n.", x -> {
            Check.due("ticksUntilSafe(10025), one more than the greatest", x.ticksUntilSafe(10025), NONE);
            Check.due("ticksUntilSafe(greatest number)", x.ticksUntilSafe(Check.MOST), NONE);
            waits10000(0, 10000);
            waits10000(1, NONE);
        });
    }

    /** The one that waits holds its timestamp back for 10000 ticks, and with a greater base for more. */
    private static void waits10000(int base, int due) {
        CommitWaitStore x = new CommitWaitStore();
        x.setUncertainty(0, 0, 100);
        Check.goTo(x, 99990);
        int timestamp = x.commit(x.begin(0));
        x.setUncertainty(0, base, 0);
        x.setUncertainty(1, 0, 100);
        x.setUncertainty(2, 0, 100);
        Check.due("ticksUntilSafe below the timestamp", x.ticksUntilSafe(timestamp - 1), 0);
        Check.due("ticksUntilSafe at the timestamp, base " + base, x.ticksUntilSafe(timestamp), due);
    }
}
