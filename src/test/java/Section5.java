/** Section 5: snapshot reads. */
final class Section5 {
    private Section5() {
    }

    static void test(Sentences s) {
        s.at("Section 5");
        readFloor(s);
        nextTimestamp(s);
        safeTime(s);
        waiting(s);
        possible(s);
    }

    private static void readFloor(Sentences s) {
        s.says("The read floor is the greatest timestamp at which a snapshot read has returned a value so far, or 0 if "
                + "there is none.", x -> {
            Check.due("readFloor() at first", x.readFloor(), 0);
            x.snapshotRead(0, 0);
            Check.due("readFloor()", x.readFloor(), 0);
            Check.illegalState("snapshotRead above the safe time", () -> x.snapshotRead(0, 5));
            Check.argument("snapshotRead(0, -1)", () -> x.snapshotRead(0, -1));
            Check.index("snapshotRead(8, 3)", () -> x.snapshotRead(8, 3));
            Check.due("readFloor() after reads that returned nothing", x.readFloor(), 0);
            x.snapshotRead(0, 3);
            Check.due("readFloor()", x.readFloor(), 3);
            x.snapshotRead(7, 4);
            Check.due("readFloor(), one more", x.readFloor(), 4);
            x.snapshotRead(7, 4);
            Check.due("readFloor(), the same again", x.readFloor(), 4);
            x.snapshotRead(0, 3);
            Check.due("readFloor(), one less", x.readFloor(), 4);
            x.snapshotRead(3, 0);
            Check.due("readFloor(), the least", x.readFloor(), 4);
            x.valueAt(0, 100);
            x.replayedValueAt(0, 100);
            x.read(x.begin(0), 0);
            Check.due("readFloor() after other reads", x.readFloor(), 4);
        });
    }

    /** The latest time 5 + offset is one of the three numbers; the other two are made before. */
    private static void next(CommitWaitStore x, int server, int[] offsets, int[] due) {
        for (int i = 0; i < offsets.length; i++) {
            x.synchronize(server, offsets[i]);
            Check.due("nextTimestamp(" + server + "), latest " + (5 + offsets[i]), x.nextTimestamp(server), due[i]);
        }
    }

    private static void nextTimestamp(Sentences s) {
        s.says("The next timestamp of a server is the greatest of three numbers: the latest time of its clock;", x -> {
            for (int server = 0; server < 3; server++) {
                next(x, server, new int[] {-500, -5, -4, -3, 0, 500}, new int[] {1, 1, 1, 2, 5, 505});
            }
        });
        s.says("1 + the greatest commit timestamp that it has assigned so far (this greatest timestamp is 0 if it has "
                + "assigned none);", x -> {
            x.commit(x.begin(1));
            next(x, 1, new int[] {-500, -1, 0, 1, 2}, new int[] {6, 6, 6, 6, 7});
            next(x, 0, new int[] {-500, -5, -4, -3}, new int[] {1, 1, 1, 2});
            x.synchronize(1, 0);
            x.commit(x.begin(1));
            next(x, 1, new int[] {-500, 1, 2, 3}, new int[] {7, 7, 7, 8});
            x.synchronize(1, 0);
            x.advance(100);
            Check.due("both are committed", x.countInState(CommitWaitStore.COMMITTED), 2);
            next(x, 1, new int[] {-99, -98, -97}, new int[] {7, 7, 8});
        });
        s.says("1 + the read floor.", x -> {
            x.snapshotRead(0, 4);
            for (int server = 0; server < 3; server++) {
                next(x, server, new int[] {-500, -2, -1, 0, 1}, new int[] {5, 5, 5, 5, 6});
            }
            x.synchronize(0, 0);
            x.commit(x.begin(0));
            next(x, 0, new int[] {-500, 1, 2}, new int[] {6, 6, 7});
        });
    }

    private static void safeTime(Sentences s) {
        s.says("The safe time is the smallest number among the following: for each server, its next timestamp minus 1;", x -> {
            Check.due("safeTime() at first", x.safeTime(), 4);
            for (int server = 0; server < 3; server++) {
                x.synchronize(server, -1);
                Check.due("safeTime(), server " + server + " is behind by 1", x.safeTime(), 3);
                x.synchronize(server, 1);
                Check.due("safeTime(), server " + server + " is ahead by 1", x.safeTime(), 4);
                x.synchronize(server, -500);
                Check.due("safeTime(), server " + server + " is far behind", x.safeTime(), 0);
                x.synchronize(server, 0);
            }
            for (int server = 0; server < 3; server++) {
                x.synchronize(server, 1);
                Check.due("safeTime(), " + (server + 1) + " are ahead by 1", x.safeTime(), server == 2 ? 5 : 4);
            }
        });
    }

    private static void waiting(Sentences s) {
        s.says("for each waiting transaction, its commit timestamp minus 1.", x -> {
            int open = x.begin(0);
            int aborted = x.begin(0);
            x.abort(aborted);
            x.commit(x.begin(1));
            x.commit(x.begin(2));
            x.advance(5);
            Check.due("safeTime(), two wait for 5", x.safeTime(), 4);
            x.synchronize(2, 500);
            Check.due("advance(1), one of them is committed", x.advance(1), 1);
            Check.due("safeTime(), one waits for 5", x.safeTime(), 4);
            x.advance(5);
            Check.due("safeTime(), the last tick before", x.safeTime(), 4);
            x.advance(1);
            Check.due("safeTime(), an open and an aborted one are left", x.safeTime(), 17);
            x.commit(open);
            Check.due("safeTime(), it waits for 18", x.safeTime(), 17);
            x.advance(1);
            Check.due("safeTime(), the clocks are ahead", x.safeTime(), 17);
            x.synchronize(1, -1);
            Check.due("safeTime(), a clock is level", x.safeTime(), 16);
        });
        s.says("for each waiting transaction,", x -> {
            for (int i = 0; i < 40; i++) {
                x.begin(0);
            }
            x.commit(39);
            x.advance(10);
            Check.due("safeTime(), the last transaction waits", x.safeTime(), 4);
            x.advance(2);
            Check.due("safeTime(), it is committed", x.safeTime(), 17);
            x.commit(0);
            x.advance(10);
            Check.due("safeTime(), the first transaction waits", x.safeTime(), 17);
        });
    }

    private static void possible(Sentences s) {
        s.says("A snapshot read of a key at a timestamp x is possible if x is at most the safe time.", x -> {
            Check.due("snapshotRead(0, 4)", x.snapshotRead(0, 4), 0);
            Check.illegalState("snapshotRead(0, 5)", () -> x.snapshotRead(0, 5));
            Check.illegalState("snapshotRead(0, greatest number)", () -> x.snapshotRead(0, Check.MOST));
            Check.due("the read at the safe time leaves it", x.safeTime(), 4);
            x.commit(x.begin(0));
            x.advance(11);
            Check.due("snapshotRead(0, 4) while 5 waits", x.snapshotRead(0, 4), 0);
            Check.illegalState("snapshotRead(0, 5) while 5 waits", () -> x.snapshotRead(0, 5));
            x.advance(1);
            Check.due("snapshotRead(0, 5)", x.snapshotRead(0, 5), 0);
            Check.illegalState("snapshotRead(0, 18)", () -> x.snapshotRead(0, 18));
            Check.due("snapshotRead(0, 17)", x.snapshotRead(0, 17), 0);
        });
        s.says("It returns the value of the key at x.", x -> {
            x.commit(Check.writer(x, 0, 7, 70));
            x.advance(12);
            Check.due("snapshotRead(7, 4)", x.snapshotRead(7, 4), 0);
            Check.due("snapshotRead(7, 5)", x.snapshotRead(7, 5), 70);
            Check.due("snapshotRead(7, 6)", x.snapshotRead(7, 6), 70);
            Check.due("snapshotRead(7, 17)", x.snapshotRead(7, 17), 70);
            Check.due("snapshotRead(6, 17)", x.snapshotRead(6, 17), 0);
            Check.due("snapshotRead(7, 0)", x.snapshotRead(7, 0), 0);
        });
    }
}
