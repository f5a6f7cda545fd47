/** Promises 7 to 11: the true time, the clocks, and snapshot reads. */
final class Promises7To11 {
    private Promises7To11() {
    }

    static void test(Sentences s) {
        advance(s);
        advanceRefused(s);
        synchronize(s);
        synchronizeAnswers(s);
        setDrift(s);
        setUncertainty(s);
        snapshotRead(s);
        snapshotReadRefused(s);
    }

    private static void advance(Sentences s) {
        s.at("Promise 7");
        s.says("Advances the true time tick by tick; after each tick the waiting transactions are examined (section 4).", x -> {
            for (int server = 0; server < 3; server++) {
                x.synchronize(server, -server);
                x.commit(x.begin(server));
            }
            x.advance(1000);
            Check.due("trueTime()", x.trueTime(), 1000);
            // The timestamps are 5, 4 and 3; each clock reads as much less, and is less sure by one.
            Check.due("commitTime", x.commitTime(0), 12);
            Check.due("commitTime", x.commitTime(1), 12);
            Check.due("commitTime", x.commitTime(2), 12);
            x.synchronize(0, 500);
            x.commit(x.begin(0));
            x.synchronize(0, 500);
            x.setUncertainty(0, 0, 0);
            x.advance(1000);
            Check.due("commitTime", x.commitTime(3), 1006);
        });
        s.says("Undoable, as one call.", x -> {
            x.commit(x.begin(0));
            Check.undone("advance(1000)", x, y -> y.advance(1000));
            Check.undone("advance(1)", x, y -> y.advance(1));
            Check.due("state", x.state(0), CommitWaitStore.WAITING);
        });
        s.says("`ticks`: 1 to 1000", x -> {
            x.advance(1);
            Check.due("trueTime() after the least", x.trueTime(), 1);
            x.advance(1000);
            Check.due("trueTime() after the greatest", x.trueTime(), 1001);
        });
        s.says("Returns the number of transactions that become committed during this call.", x -> {
            for (int i = 0; i < 40; i++) {
                x.commit(x.begin(i % 2));
            }
            // Two wait for each of 5 to 24, and a timestamp takes seven ticks more.
            Check.due("advance(11), none", x.advance(11), 0);
            Check.due("advance(1), the first two", x.advance(1), 2);
            Check.due("advance(18), all but the last two", x.advance(18), 36);
            Check.due("advance(1), the last two", x.advance(1), 2);
            Check.due("advance(1), none is left", x.advance(1), 0);
        });
        s.says("Returns the number of transactions that become committed", x -> {
            for (int i = 0; i < 40; i++) {
                x.commit(x.begin(i % 2));
            }
            Check.due("advance(1000), all 40", x.advance(1000), 40);
            Check.due("countInState(COMMITTED)", x.countInState(CommitWaitStore.COMMITTED), 40);
        });
    }

    private static void advanceRefused(Sentences s) {
        s.says("Throws `IllegalArgumentException` if the number of ticks is out of range", x ->
                Check.range("advance", 1, 1000, Check.ARGUMENT, n -> x.advance(n)));
        s.says("Throws `IllegalStateException` if the true time would become greater than 1000000", x -> {
            CommitWaitStore y = Check.storeAt(999000);
            y.save(0);
            Check.due("advance(1000) at 999000", y.advance(1000), 0);
            Check.due("trueTime()", y.trueTime(), 1000000);
            Check.illegalState("advance(1) at 1000000", () -> y.advance(1));
            Check.illegalState("advance(1000) at 1000000", () -> y.advance(1000));
            y.restore(0);
            y.advance(1);
            Check.illegalState("advance(1000) at 999001", () -> y.advance(1000));
            Check.due("trueTime()", y.trueTime(), 999001);
            Check.due("advance(999) at 999001", y.advance(999), 0);
            Check.due("trueTime()", y.trueTime(), 1000000);
        });
    }

    private static void synchronize(Sentences s) {
        s.at("Promise 8");
        s.says("Synchronizes the clock of a server: the offset base becomes the given offset, and the offset time and the "
                + "synchronization time become the true time.", x -> {
            x.setDrift(1, 100);
            x.setUncertainty(1, 5, 100);
            x.advance(15);
            Check.due("reading(1) before", x.reading(1), 16);
            Check.due("latest(1) before", x.latest(1), 23);
            x.synchronize(1, -7);
            Check.due("reading(1)", x.reading(1), 8);
            Check.due("latest(1)", x.latest(1), 13);
            x.advance(9);
            Check.due("reading(1), nine ticks later", x.reading(1), 17);
            Check.due("latest(1), nine ticks later", x.latest(1), 23);
            x.advance(1);
            Check.due("reading(1), ten ticks later", x.reading(1), 19);
            Check.due("latest(1), ten ticks later", x.latest(1), 25);
            x.advance(1);
            Check.due("latest(1), eleven ticks later", x.latest(1), 27);
            Check.due("reading(0)", x.reading(0), 26);
        });
        s.says("The drift, the base uncertainty and the growth stay.", x -> {
            x.setDrift(2, -100);
            x.setUncertainty(2, 9, 100);
            x.advance(50);
            x.synchronize(2, 0);
            x.advance(10);
            Check.due("reading(2)", x.reading(2), 59);
            Check.due("latest(2)", x.latest(2), 59 + 10);
            x.advance(1);
            Check.due("reading(2)", x.reading(2), 59);
            Check.due("latest(2)", x.latest(2), 59 + 11);
            Check.due("setDrift(2, 0)", x.setDrift(2, 0), -100);
        });
        s.says("Undoable.", x -> {
            x.advance(7);
            Check.undone("synchronize(0, 500)", x, y -> y.synchronize(0, 500));
            Check.undone("synchronize(2, -500)", x, y -> y.synchronize(2, -500));
        });
    }

    private static void synchronizeAnswers(Sentences s) {
        s.says("`server`: 0 to 2", x -> {
            for (int server = 0; server < 3; server++) {
                x.synchronize(server, 10);
                for (int other = 0; other < 3; other++) {
                    Check.due("reading(" + other + ")", x.reading(other), other <= server ? 10 : 0);
                }
            }
        });
        s.says("`offset`: -500 to 500", x -> {
            x.advance(3);
            x.synchronize(0, -500);
            Check.due("reading(0), the least", x.reading(0), -497);
            x.synchronize(0, 500);
            Check.due("reading(0), the greatest", x.reading(0), 503);
        });
        s.says("Returns the reading of the clock after the call minus its reading before the call.", x -> {
            Check.due("synchronize(0, 0)", x.synchronize(0, 0), 0);
            Check.due("synchronize(0, 500)", x.synchronize(0, 500), 500);
            Check.due("synchronize(0, 500)", x.synchronize(0, 500), 0);
            Check.due("synchronize(0, -500)", x.synchronize(0, -500), -1000);
            Check.due("synchronize(0, 500)", x.synchronize(0, 500), 1000);
            x.setDrift(0, 100);
            x.setDrift(1, -100);
            x.advance(11);
            Check.due("synchronize of a fast clock", x.synchronize(0, 500), -1);
            Check.due("synchronize of a slow clock", x.synchronize(1, 0), 2);
        });
        s.says("Throws `IndexOutOfBoundsException` if there is no such server", x ->
                Check.range("synchronize", 0, 2, Check.INDEX, n -> x.synchronize(n, 0)));
        s.says("Throws `IllegalArgumentException` if the offset is out of range", x ->
                Check.range("synchronize", -500, 500, Check.ARGUMENT, n -> x.synchronize(0, n)));
    }

    private static void setDrift(Sentences s) {
        s.at("Promise 9");
        s.says("Changes the drift of a clock: the offset base becomes the present offset, the offset time becomes the true "
                + "time, and the drift becomes the given value.", x -> {
            x.synchronize(0, 20);
            x.setDrift(0, -100);
            x.advance(11);
            Check.due("reading(0), 1.1 slow", x.reading(0), 29);
            x.setDrift(0, 100);
            Check.due("reading(0), the drift is changed", x.reading(0), 29);
            x.advance(9);
            Check.due("reading(0), nine ticks later", x.reading(0), 38);
            x.advance(1);
            Check.due("reading(0), ten ticks later", x.reading(0), 40);
            x.setUncertainty(0, 5, 100);
            Check.due("latest(0), the synchronization time stays", x.latest(0), 40 + 8);
            Check.due("reading(1)", x.reading(1), 21);
        });
        s.says("Undoable.", x -> {
            Check.undone("setDrift(0, 100)", x, y -> y.setDrift(0, 100));
            x.advance(1000);
            Check.due("reading(0) after the undo", x.reading(0), 1000);
        });
        s.says("`server`: 0 to 2", x -> {
            for (int server = 0; server < 3; server++) {
                x.setDrift(server, 10 + server);
            }
            for (int server = 0; server < 3; server++) {
                Check.due("setDrift(" + server + ", 0)", x.setDrift(server, 0), 10 + server);
            }
        });
        s.says("`drift`: -100 to 100", x -> {
            x.setDrift(0, -100);
            x.setDrift(1, 100);
            x.advance(1000);
            Check.due("reading(0), the least drift", x.reading(0), 900);
            Check.due("reading(1), the greatest drift", x.reading(1), 1100);
        });
        s.says("Returns the previous drift.", x -> {
            Check.due("setDrift(0, 100)", x.setDrift(0, 100), 0);
            Check.due("setDrift(0, -100)", x.setDrift(0, -100), 100);
            Check.due("setDrift(0, 0)", x.setDrift(0, 0), -100);
            Check.due("setDrift(0, 1)", x.setDrift(0, 1), 0);
        });
        s.says("Throws `IndexOutOfBoundsException` if there is no such server", x ->
                Check.range("setDrift", 0, 2, Check.INDEX, n -> x.setDrift(n, 0)));
        s.says("Throws `IllegalArgumentException` if the drift is out of range", x ->
                Check.range("setDrift", -100, 100, Check.ARGUMENT, n -> x.setDrift(0, n)));
    }

    private static void setUncertainty(Sentences s) {
        s.at("Promise 10");
        s.says("Changes the base uncertainty and the growth of a clock; the synchronization time stays.", x -> {
            x.advance(10);
            x.setUncertainty(0, 30, 100);
            Check.due("latest(0), ten ticks after the synchronization", x.latest(0), 10 + 31);
            x.advance(1);
            Check.due("latest(0), eleven ticks after it", x.latest(0), 11 + 32);
            Check.due("reading(0)", x.reading(0), 11);
            Check.due("latest(1)", x.latest(1), 11 + 6);
        });
        s.says("Undoable.", x -> {
            Check.undone("setUncertainty(0, 500, 100)", x, y -> y.setUncertainty(0, 500, 100));
            x.advance(1000);
            Check.due("latest(0) after the undo", x.latest(0), 1007);
        });
        s.says("`server`: 0 to 2", x -> {
            for (int server = 0; server < 3; server++) {
                x.setUncertainty(server, 20, 0);
                for (int other = 0; other < 3; other++) {
                    Check.due("latest(" + other + ")", x.latest(other), other <= server ? 20 : 5);
                }
            }
        });
        s.says("`base`: the new base uncertainty, 0 to 500", x -> {
            Check.due("the least base", x.setUncertainty(0, 0, 0), 0);
            Check.due("earliest(0)", x.earliest(0), 0);
            Check.due("the greatest base", x.setUncertainty(0, 500, 0), 500);
            Check.due("earliest(0)", x.earliest(0), -500);
        });
        s.says("`growth`: the new growth, 0 to 100", x -> {
            x.advance(1000);
            Check.due("the least growth", x.setUncertainty(0, 1, 0), 1);
            Check.due("the greatest growth", x.setUncertainty(0, 1, 100), 101);
            x.advance(1);
            Check.due("latest(0)", x.latest(0), 1001 + 102);
        });
        s.says("Returns the uncertainty of the clock after the call.", x -> {
            Check.due("setUncertainty(0, 5, 2)", x.setUncertainty(0, 5, 2), 5);
            x.advance(1);
            Check.due("setUncertainty(0, 0, 0)", x.setUncertainty(0, 0, 0), 0);
            Check.due("setUncertainty(0, 0, 1)", x.setUncertainty(0, 0, 1), 1);
            x.advance(999);
            Check.due("setUncertainty(0, 0, 1) at 1000", x.setUncertainty(0, 0, 1), 1);
            x.advance(1);
            Check.due("setUncertainty(0, 0, 1) at 1001", x.setUncertainty(0, 0, 1), 2);
            Check.due("setUncertainty(0, 500, 100) at 1001", x.setUncertainty(0, 500, 100), 601);
        });
        s.says("Throws `IndexOutOfBoundsException` if there is no such server", x ->
                Check.range("setUncertainty", 0, 2, Check.INDEX, n -> x.setUncertainty(n, 0, 0)));
        s.says("Throws `IllegalArgumentException` if the base uncertainty or the growth is out of range", x -> {
            Check.range("setUncertainty, base", 0, 500, Check.ARGUMENT, n -> x.setUncertainty(0, n, 0));
            Check.range("setUncertainty, growth", 0, 100, Check.ARGUMENT, n -> x.setUncertainty(0, 0, n));
            Check.argument("setUncertainty, both", () -> x.setUncertainty(0, 501, 101));
        });
    }

    private static void snapshotRead(Sentences s) {
        s.at("Promise 11");
        s.says("Reads a key at a timestamp (section 5).", x -> {
            x.commit(Check.writer(x, 0, 0, 1));
            x.advance(12);
            Check.due("snapshotRead(0, 4)", x.snapshotRead(0, 4), 0);
            Check.due("snapshotRead(0, 5)", x.snapshotRead(0, 5), 1);
        });
        s.says("If the read floor is less than the timestamp, it becomes the timestamp.", x -> {
            x.advance(100);
            int[] at = {0, 1, 0, 1, 2, 50, 49, 50, 51, 105, 0};
            int[] due = {0, 1, 1, 1, 2, 50, 50, 50, 51, 105, 105};
            for (int i = 0; i < at.length; i++) {
                x.snapshotRead(i % 8, at[i]);
                Check.due("readFloor() after a read at " + at[i], x.readFloor(), due[i]);
            }
        });
        s.says("Undoable.", x -> {
            Check.undone("snapshotRead(0, 4)", x, y -> y.snapshotRead(0, 4));
            Check.due("readFloor() after the undo", x.readFloor(), 0);
            Check.undone("snapshotRead(0, 0)", x, y -> y.snapshotRead(0, 0));
        });
        s.says("`key`: 0 to 7", x -> {
            int t = x.begin(0);
            for (int key = 0; key < 8; key++) {
                x.write(t, key, 10 * key);
            }
            x.commit(t);
            x.advance(12);
            for (int key = 0; key < 8; key++) {
                Check.due("snapshotRead, key " + key, x.snapshotRead(key, 5), 10 * key);
            }
        });
        s.says("`timestamp`: 0 or more", x -> {
            Check.due("snapshotRead(0, 0)", x.snapshotRead(0, 0), 0);
            x.setDrift(0, 100);
            x.setDrift(1, 100);
            x.setDrift(2, 100);
            Check.goTo(x, 1000000);
            Check.due("snapshotRead, a late one", x.snapshotRead(0, 1102004), 0);
            Check.due("readFloor()", x.readFloor(), 1102004);
        });
        s.says("Returns the value of the key at the timestamp.", x -> {
            x.commit(Check.writer(x, 0, 3, 9999));
            x.advance(12);
            x.commit(Check.writer(x, 0, 3, 7));
            x.advance(20);
            // The timestamps are 5 and 18.
            int[] at = {0, 4, 5, 17, 18, 19};
            int[] due = {0, 0, 9999, 9999, 7, 7};
            for (int i = 0; i < at.length; i++) {
                Check.due("snapshotRead(3, " + at[i] + ")", x.snapshotRead(3, at[i]), due[i]);
            }
        });
    }

    private static void snapshotReadRefused(Sentences s) {
        s.says("Throws `IndexOutOfBoundsException` if there is no such key", x ->
                Check.range("snapshotRead", 0, 7, Check.INDEX, n -> x.snapshotRead(n, 0)));
        s.says("Throws `IllegalArgumentException` if the timestamp is negative", x -> {
            Check.argument("snapshotRead(0, -1)", () -> x.snapshotRead(0, -1));
            Check.argument("snapshotRead(0, least number)", () -> x.snapshotRead(0, Check.LEAST));
            Check.due("snapshotRead(0, 0)", x.snapshotRead(0, 0), 0);
        });
        s.says("Throws `IllegalStateException` if the timestamp is greater than the safe time", x -> {
            for (int server = 0; server < 3; server++) {
                x.synchronize(server, -500);
            }
            Check.due("snapshotRead(0, 0)", x.snapshotRead(0, 0), 0);
            Check.illegalState("snapshotRead(0, 1), the safe time is 0", () -> x.snapshotRead(0, 1));
            Check.illegalState("snapshotRead(0, greatest number)", () -> x.snapshotRead(0, Check.MOST));
            x.advance(496);
            Check.due("snapshotRead(0, 1), the safe time is 1", x.snapshotRead(0, 1), 0);
            Check.illegalState("snapshotRead(0, 2), the safe time is 1", () -> x.snapshotRead(0, 2));
        });
    }
}
