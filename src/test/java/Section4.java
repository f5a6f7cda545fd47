/** Section 4: commit. */
final class Section4 {
    private static final int CONFLICT = CommitWaitStore.CONFLICT;
    private static final int LOCKED = CommitWaitStore.LOCKED;

    /** Makes what a commit request needs, and tells the transaction. */
    private interface Before {
        int makes(CommitWaitStore store);
    }

    private Section4() {
    }

    static void test(Sentences s) {
        s.at("Section 4");
        firstOutcome(s);
        conflict(s);
        lock(s);
        lastWaitingOne(s);
        latestAndAssigned(s);
        readFloor(s);
        newestVersion(s);
        readerMark(s);
        readerMarkAlone(s);
        examination(s);
        committing(s);
        noOtherMoments(s);
        uses(s);
        soundUses(s);
    }

    private static void firstOutcome(Sentences s) {
        s.says("A commit request of an open transaction T has the first of the following three outcomes that applies.", x -> {
            int reader = Check.reader(x, 1, 0);
            int writer = Check.writer(x, 1, 0, 9);
            x.commit(Check.writer(x, 0, 0, 1));
            x.advance(12);
            x.commit(Check.writer(x, 0, 0, 2));
            Check.due("a conflict and a lock", x.commit(reader), CONFLICT);
            Check.due("a lock alone", x.commit(writer), LOCKED);
            x.advance(100);
            Check.due("neither", x.commit(writer), 118);
        });
        s.says("A commit request of an open transaction T", x -> {
            int t = x.begin(0);
            x.commit(t);
            Check.illegalState("commit of a waiting one", () -> x.commit(t));
            x.advance(12);
            Check.illegalState("commit of a committed one", () -> x.commit(t));
            int aborted = x.begin(0);
            x.abort(aborted);
            Check.illegalState("commit of an aborted one", () -> x.commit(aborted));
        });
    }

    private static void conflict(Sentences s) {
        s.says("Conflict: there is a key that T has read whose newest version is not the recorded version.", x -> {
            for (int key = 0; key < 8; key++) {
                CommitWaitStore y = new CommitWaitStore();
                int t = y.begin(1);
                for (int read = 0; read < 8; read++) {
                    y.read(t, read);
                }
                int blind = Check.writer(y, 1, key, 6);
                int others = y.begin(1);
                for (int read = 0; read < 8; read++) {
                    Check.due("read", read == key ? 0 : y.read(others, read), 0);
                }
                y.commit(Check.writer(y, 0, key, 0));
                Check.due("ifCommitted before the version is there", y.ifCommitted(t), LOCKED);
                y.advance(12);
                Check.due("ifCommitted, key " + key + " alone is newer", y.ifCommitted(t), CONFLICT);
                Check.due("ifCommitted, all keys but " + key + " are read", y.ifCommitted(others), 18);
                Check.due("ifCommitted, only written", y.ifCommitted(blind), 18);
            }
        });
        s.says("whose newest version is not the recorded version.", x -> {
            x.commit(Check.writer(x, 0, 5, 50));
            x.advance(12);
            int t = Check.reader(x, 1, 5);
            Check.due("ifCommitted, the recorded version is the newest", x.ifCommitted(t), 18);
            x.commit(Check.writer(x, 0, 5, 50));
            x.advance(20);
            Check.due("ifCommitted, a newer version of the same value", x.ifCommitted(t), CONFLICT);
            x.undo();
            x.undo();
            Check.due("ifCommitted after the undo", x.ifCommitted(t), 18);
        });
        s.says("T becomes aborted.", x -> {
            int t = Check.reader(x, 1, 0);
            int other = Check.reader(x, 1, 0);
            x.commit(Check.writer(x, 0, 0, 1));
            x.advance(12);
            Check.due("commit", x.commit(t), CONFLICT);
            Check.due("state", x.state(t), CommitWaitStore.ABORTED);
            Check.due("timestamp", x.timestamp(t), CommitWaitStore.NONE);
            Check.due("requestTime", x.requestTime(t), CommitWaitStore.NONE);
            Check.due("state of another one", x.state(other), CommitWaitStore.OPEN);
            Check.due("nothing is assigned", x.nextTimestamp(1), 18);
        });
    }

    private static void touch(CommitWaitStore x, int transaction, int key, boolean reads, boolean writes) {
        if (reads) {
            x.read(transaction, key);
        }
        if (writes) {
            x.write(transaction, key, 1);
        }
    }

    /** Whether a waiting transaction locks out another one, the lower or the higher of two numbers. */
    private static void lockOf(int key, int waiting, boolean[] touches, boolean due) {
        CommitWaitStore x = new CommitWaitStore();
        x.begin(0);
        x.begin(1);
        touch(x, waiting, key, touches[0], touches[1]);
        touch(x, 1 - waiting, key, touches[2], touches[3]);
        Check.due("commit, nothing waits", x.commit(waiting), 5);
        String what = "commit, key " + key + ", W is " + waiting + (touches[0] ? " and has read" : "")
                + (touches[1] ? " and has written" : "") + ", T" + (touches[2] ? " has read" : "")
                + (touches[3] ? " has written" : "");
        Check.due(what, x.commit(1 - waiting), due ? LOCKED : 5);
    }

    private static void lock(Sentences s) {
        s.says("Lock: there are a waiting transaction W and a key such that W has written the key and T has read or "
                + "written it, or such that W has read the key and T has written it.", x -> {
            for (int touches = 0; touches < 16; touches++) {
                boolean[] is = {(touches & 1) != 0, (touches & 2) != 0, (touches & 4) != 0, (touches & 8) != 0};
                boolean due = is[1] && (is[2] || is[3]) || is[0] && is[3];
                for (int key = 0; key < 8; key++) {
                    lockOf(key, 0, is, due);
                    lockOf(key, 1, is, due);
                }
            }
        });
        s.says("and a key such that", x -> {
            int waiting = Check.writer(x, 0, 0, 1);
            x.read(waiting, 7);
            x.commit(waiting);
            for (int key = 0; key < 8; key++) {
                Check.due("ifCommitted, reads key " + key, x.ifCommitted(Check.reader(x, 1, key)), key == 0 ? LOCKED : 5);
                Check.due("ifCommitted, writes key " + key, x.ifCommitted(Check.writer(x, 1, key, 1)),
                        key == 0 || key == 7 ? LOCKED : 5);
            }
        });
        s.says("there are a waiting transaction W", x -> {
            int t = Check.writer(x, 0, 0, 1);
            int open = Check.writer(x, 0, 0, 2);
            Check.due("ifCommitted beside an open one", x.ifCommitted(t), 5);
            x.abort(Check.writer(x, 0, 0, 3));
            Check.due("ifCommitted beside an aborted one", x.ifCommitted(t), 5);
            x.commit(open);
            Check.due("ifCommitted beside a waiting one", x.ifCommitted(t), LOCKED);
            x.advance(11);
            Check.due("ifCommitted a tick before its commit", x.ifCommitted(t), LOCKED);
            x.advance(1);
            Check.due("ifCommitted beside a committed one", x.ifCommitted(t), 18);
        });
    }

    private static void lastWaitingOne(Sentences s) {
        s.says("there are a waiting transaction W", x -> {
            for (int i = 0; i < 40; i++) {
                x.begin(0);
            }
            x.write(39, 0, 1);
            x.write(0, 1, 1);
            x.commit(39);
            x.commit(0);
            x.read(1, 0);
            x.read(38, 1);
            Check.due("commit beside the last transaction", x.commit(1), LOCKED);
            Check.due("commit beside the first transaction", x.commit(38), LOCKED);
            Check.due("commit beside both", x.commit(20), 7);
        });
        s.says("Nothing changes.", x -> {
            x.commit(Check.writer(x, 0, 0, 1));
            int t = Check.writer(x, 0, 0, 2);
            x.read(t, 1);
            String before = Check.everything(x);
            Check.due("commit", x.commit(t), LOCKED);
            Check.due("the store after LOCKED", Check.everything(x), before);
            Check.due("state", x.state(t), CommitWaitStore.OPEN);
            x.advance(12);
            Check.due("commit, asked for again", x.commit(t), 18);
        });
    }

    /** The commit timestamp under each of the latest times that the server's clock may have. */
    private static void timestamps(String what, int server, Before before, int[] latest, int[] due) {
        for (int i = 0; i < latest.length; i++) {
            CommitWaitStore x = new CommitWaitStore();
            int transaction = before.makes(x);
            x.synchronize(server, 0);
            x.synchronize(server, latest[i] - x.latest(server));
            Check.due(what + ", latest(" + server + ")", x.latest(server), latest[i]);
            Check.due(what + ", ifCommitted at the latest time " + latest[i], x.ifCommitted(transaction), due[i]);
            Check.due(what + ", commit at the latest time " + latest[i], x.commit(transaction), due[i]);
            Check.due(what + ", timestamp", x.timestamp(transaction), due[i]);
        }
    }

    private static void latestAndAssigned(Sentences s) {
        s.says("Acceptance: T becomes waiting, and it gets a commit timestamp, which is the greatest of the following "
                + "numbers: the latest time of the clock of its server;", x -> {
            for (int server = 0; server < 3; server++) {
                int its = server;
                timestamps("nothing else", server, y -> y.begin(its),
                        new int[] {-495, -1, 0, 1, 2, 505}, new int[] {1, 1, 1, 1, 2, 505});
            }
            x.commit(x.begin(2));
            Check.due("state", x.state(0), CommitWaitStore.WAITING);
            Check.due("requestTime", x.requestTime(0), 0);
        });
        s.says("1 + the greatest commit timestamp that its server has assigned so far (this greatest timestamp is 0 if "
                + "the server has assigned none);", x -> {
            timestamps("5 is assigned", 0, y -> {
                y.commit(y.begin(0));
                return y.begin(0);
            }, new int[] {-495, 4, 5, 6, 7, 8}, new int[] {6, 6, 6, 6, 7, 8});
            timestamps("5 is assigned by other servers", 0, y -> {
                y.commit(y.begin(1));
                y.commit(y.begin(2));
                return y.begin(0);
            }, new int[] {0, 1, 2, 4, 5, 6}, new int[] {1, 1, 2, 4, 5, 6});
            timestamps("5 and 6 were assigned and are committed", 0, y -> {
                y.commit(y.begin(0));
                y.commit(y.begin(0));
                y.advance(100);
                return y.begin(0);
            }, new int[] {5, 6, 7, 8}, new int[] {7, 7, 7, 8});
        });
    }

    private static void readFloor(Sentences s) {
        s.says("1 + the read floor (section 5);", x -> {
            timestamps("a read floor of 4", 1, y -> {
                y.snapshotRead(0, 4);
                return y.begin(1);
            }, new int[] {-495, 3, 4, 5, 6, 7}, new int[] {5, 5, 5, 5, 6, 7});
            timestamps("a read floor of 1", 1, y -> {
                y.snapshotRead(7, 1);
                return y.begin(1);
            }, new int[] {0, 1, 2, 3}, new int[] {2, 2, 2, 3});
            timestamps("a read floor of 0", 1, y -> {
                y.snapshotRead(7, 0);
                return y.begin(1);
            }, new int[] {0, 1, 2}, new int[] {1, 1, 2});
        });
    }

    /** The version of the timestamp 5 is made for keys 0 and 7 by the server 0. */
    private static void makeVersions(CommitWaitStore x) {
        int t = x.begin(0);
        x.write(t, 0, 1);
        x.write(t, 7, 1);
        x.commit(t);
        x.advance(12);
    }

    private static void newestVersion(Sentences s) {
        s.says("for each key that T has read or written, 1 + the timestamp of the newest version;", x -> {
            int[] latest = {-400, 4, 5, 6, 7, 8};
            int[] due = {6, 6, 6, 6, 7, 8};
            for (int key = 0; key < 8; key += 7) {
                int its = key;
                timestamps("key " + key + " is read", 1, y -> {
                    makeVersions(y);
                    return Check.reader(y, 1, its);
                }, latest, due);
                timestamps("key " + key + " is written", 1, y -> {
                    makeVersions(y);
                    return Check.writer(y, 1, its, 3);
                }, latest, due);
            }
            timestamps("neither is touched", 1, y -> {
                makeVersions(y);
                int t = Check.reader(y, 1, 1);
                y.write(t, 6, 3);
                return t;
            }, new int[] {-400, 1, 2, 4, 5, 6}, new int[] {1, 1, 2, 4, 5, 6});
        });
    }

    /** Keys 0 and 7 are read by a transaction of the server 0, which is committed with the timestamp 5. */
    private static void makeMarks(CommitWaitStore x) {
        int t = x.begin(0);
        x.read(t, 0);
        x.read(t, 7);
        x.commit(t);
        x.advance(12);
    }

    private static void readerMark(Sentences s) {
        s.says("for each key that T has written, 1 + the reader mark of the key.", x -> {
            for (int key = 0; key < 8; key += 7) {
                int its = key;
                timestamps("key " + key + " is written", 1, y -> {
                    makeMarks(y);
                    return Check.writer(y, 1, its, 3);
                }, new int[] {-400, 4, 5, 6, 7, 8}, new int[] {6, 6, 6, 6, 7, 8});
                timestamps("key " + key + " is only read", 1, y -> {
                    makeMarks(y);
                    return Check.reader(y, 1, its);
                }, new int[] {-400, 1, 2, 4, 5, 6}, new int[] {1, 1, 2, 4, 5, 6});
            }
            timestamps("another key is written", 1, y -> {
                makeMarks(y);
                return Check.writer(y, 1, 3, 3);
            }, new int[] {-400, 1, 2, 4, 5, 6}, new int[] {1, 1, 2, 4, 5, 6});
        });
        s.says("A commit timestamp counts as assigned by the server of the transaction.", x -> {
            for (int server = 0; server < 3; server++) {
                x.synchronize(server, -5);
            }
            for (int server = 0; server < 3; server++) {
                Check.due("commit", x.commit(x.begin(server)), 1);
                for (int other = 0; other < 3; other++) {
                    Check.due("nextTimestamp(" + other + ")", x.nextTimestamp(other), other <= server ? 2 : 1);
                }
            }
        });
    }

    private static void readerMarkAlone(Sentences s) {
        s.says("The reader mark of a key is the greatest commit timestamp of a committed transaction that has read the "
                + "key, or 0 if there is none.", x -> {
            Check.due("readerMark at first", x.readerMark(0), 0);
            x.synchronize(1, 10);
            x.commit(Check.reader(x, 1, 0));
            x.commit(Check.reader(x, 0, 0));
            x.commit(Check.writer(x, 2, 1, 1));
            int aborted = Check.reader(x, 0, 0);
            x.abort(aborted);
            int open = Check.reader(x, 0, 0);
            x.advance(11);
            Check.due("readerMark while they wait", x.readerMark(0), 0);
            x.advance(1);
            // The timestamps are 15 and 5; both clocks pass them at 12.
            Check.due("commitTime", x.commitTime(0), 12);
            Check.due("commitTime", x.commitTime(1), 12);
            Check.due("readerMark, the greatest and not the last", x.readerMark(0), 15);
            Check.due("readerMark of a key that is only written", x.readerMark(1), 0);
            Check.due("state", x.state(open), CommitWaitStore.OPEN);
            x.synchronize(1, -500);
            x.commit(Check.reader(x, 0, 0));
            x.advance(20);
            Check.due("readerMark, a greater one", x.readerMark(0), 18);
        });
    }

    private static void examination(Sentences s) {
        s.says("Each time the true time has increased by one tick, the waiting transactions are examined.", x -> {
            x.setUncertainty(0, 7, 0);
            int t = x.begin(0);
            Check.due("commit", x.commit(t), 7);
            // From here the earliest time is 8 at 10 and 7 again at 11.
            x.setUncertainty(0, 0, 100);
            x.setDrift(0, -100);
            Check.due("advance(11)", x.advance(11), 1);
            Check.due("earliest(0) at 11", x.earliest(0), 7);
            Check.due("commitTime", x.commitTime(t), 10);
        });
        s.says("Each time the true time has increased by one tick,", x -> {
            for (int server = 0; server < 3; server++) {
                x.setUncertainty(server, server, 0);
            }
            for (int server = 2; server >= 0; server--) {
                x.commit(x.begin(server));
            }
            Check.due("advance(1000)", x.advance(1000), 3);
            Check.due("commitTime of the last", x.commitTime(0), 5);
            Check.due("commitTime of the second", x.commitTime(1), 3);
            Check.due("commitTime of the first", x.commitTime(2), 2);
        });
        s.says("Each waiting transaction whose commit timestamp is less than the earliest time of the clock of its "
                + "server becomes committed:", x -> {
            for (int server = 0; server < 3; server++) {
                CommitWaitStore y = new CommitWaitStore();
                int t = y.begin(server);
                y.commit(t);
                y.synchronize((server + 1) % 3, 500);
                y.synchronize((server + 2) % 3, -500);
                Check.due("advance(11)", y.advance(11), 0);
                Check.due("earliest, equal", y.earliest(server), 5);
                Check.due("state", y.state(t), CommitWaitStore.WAITING);
                Check.due("advance(1)", y.advance(1), 1);
                Check.due("earliest, one more", y.earliest(server), 6);
                Check.due("state", y.state(t), CommitWaitStore.COMMITTED);
            }
        });
        s.says("Each waiting transaction", x -> {
            for (int i = 0; i < 40; i++) {
                x.commit(x.begin(0));
            }
            // The timestamps are 5 to 44, and each takes seven ticks more.
            Check.due("advance(11)", x.advance(11), 0);
            Check.due("advance(1), the first", x.advance(1), 1);
            Check.due("advance(38), all but the last", x.advance(38), 38);
            Check.due("state of the last", x.state(39), CommitWaitStore.WAITING);
            Check.due("advance(1), the last", x.advance(1), 1);
            Check.due("advance(1000), none is left", x.advance(1000), 0);
        });
    }

    private static void committing(Sentences s) {
        s.says("for each key that it has written, a version is added to the key, with the commit timestamp and the "
                + "buffered value.", x -> {
            int t = x.begin(0);
            for (int key = 0; key < 8; key++) {
                x.read(t, key);
            }
            x.write(t, 0, 0);
            x.write(t, 7, 9999);
            x.commit(t);
            x.advance(11);
            Check.due("versions before", x.versions(0) + x.versions(7), 2);
            x.advance(1);
            for (int key = 0; key < 8; key++) {
                Check.due("versions, key " + key, x.versions(key), key == 0 || key == 7 ? 2 : 1);
            }
            Check.due("versionTimestamp", x.versionTimestamp(0, 1), 5);
            Check.due("versionTimestamp", x.versionTimestamp(7, 1), 5);
            Check.due("valueAt", x.valueAt(0, 5), 0);
            Check.due("valueAt", x.valueAt(7, 5), 9999);
        });
        s.says("for each key that it has written, a version is added", x -> {
            int t = x.begin(0);
            for (int key = 0; key < 8; key++) {
                x.write(t, key, key);
            }
            int none = x.begin(1);
            x.commit(t);
            x.commit(none);
            Check.due("advance", x.advance(12), 2);
            for (int key = 0; key < 8; key++) {
                Check.due("versions, key " + key, x.versions(key), 2);
                Check.due("valueAt, key " + key, x.valueAt(key, 5), key);
            }
        });
    }

    private static void noOtherMoments(Sentences s) {
        s.says("Waiting transactions are examined at no other moments.", x -> {
            int t = Check.writer(x, 0, 0, 1);
            x.commit(t);
            x.synchronize(0, 499);
            Check.due("earliest(0) is past the timestamp", x.earliest(0), 494);
            x.synchronize(0, 500);
            x.setUncertainty(0, 0, 0);
            x.setDrift(0, 100);
            x.setDrift(0, 99);
            Check.due("earliest(0) is past the timestamp", x.earliest(0), 500);
            Check.argument("advance(0)", () -> x.advance(0));
            x.save(0);
            x.restore(0);
            x.commit(Check.reader(x, 1, 1));
            x.commit(Check.writer(x, 1, 0, 2));
            x.abort(x.begin(0));
            x.snapshotRead(0, 1);
            Check.executed(x, "b0;r4,2;w4,3,1;c4;s1,5");
            x.undo();
            Check.everything(x);
            Check.due("state", x.state(t), CommitWaitStore.WAITING);
            Check.due("versions", x.versions(0), 1);
            Check.due("advance(1)", x.advance(1), 1);
            Check.due("state after a tick", x.state(t), CommitWaitStore.COMMITTED);
        });
    }

    private static void uses(Sentences s) {
        s.says("The clock of a server is used when a transaction of this server becomes waiting,", x -> {
            x.synchronize(1, 100);
            int unsound = Check.reader(x, 1, 0);
            x.write(unsound, 1, 1);
            x.ifCommitted(unsound);
            x.snapshotRead(0, 3);
            x.abort(x.begin(1));
            Check.due("unsoundUses() before a request", x.unsoundUses(), 0);
            x.commit(x.begin(0));
            x.commit(x.begin(2));
            Check.due("unsoundUses(), other servers", x.unsoundUses(), 0);
            x.commit(unsound);
            Check.due("unsoundUses()", x.unsoundUses(), 1);
            x.commit(Check.writer(x, 1, 1, 2));
            Check.due("unsoundUses(), a lock", x.unsoundUses(), 1);
            x.commit(x.begin(1));
            Check.due("unsoundUses(), another request", x.unsoundUses(), 2);
        });
        s.says("and when a transaction of this server becomes committed.", x -> {
            int conflicting = Check.reader(x, 0, 0);
            x.commit(Check.writer(x, 0, 0, 1));
            x.commit(x.begin(0));
            x.synchronize(0, 500);
            Check.due("unsoundUses() while they wait", x.unsoundUses(), 0);
            Check.due("advance(1)", x.advance(1), 2);
            Check.due("unsoundUses() of two commits", x.unsoundUses(), 2);
            x.commit(conflicting);
            Check.due("unsoundUses(), a conflict", x.unsoundUses(), 2);
            x.advance(1000);
            Check.due("unsoundUses(), nothing waits", x.unsoundUses(), 2);
            x.undo();
            x.undo();
            x.undo();
            Check.due("unsoundUses() after the undo", x.unsoundUses(), 0);
        });
    }

    private static void soundUses(Sentences s) {
        s.says("A use is unsound if the clock is not sound at that moment.", x -> {
            int[] offsets = {-6, -5, 0, 5, 6};
            int[] due = {1, 0, 0, 0, 1};
            for (int i = 0; i < offsets.length; i++) {
                CommitWaitStore y = new CommitWaitStore();
                y.synchronize(0, offsets[i]);
                y.commit(y.begin(0));
                Check.due("unsoundUses() of a request, offset " + offsets[i], y.unsoundUses(), due[i]);
            }
        });
        s.says("A use is unsound if", x -> {
            int[] offsets = {-4, -3, 0, 3, 4};
            int[] due = {1, 0, 0, 0, 1};
            int[] times = {11, 10, 7, 4, 3};
            for (int i = 0; i < offsets.length; i++) {
                CommitWaitStore y = new CommitWaitStore();
                y.setUncertainty(0, 3, 0);
                Check.due("commit", y.commit(y.begin(0)), 3);
                y.synchronize(0, offsets[i]);
                y.advance(100);
                Check.due("commitTime", y.commitTime(0), times[i]);
                Check.due("unsoundUses() of a commit, offset " + offsets[i], y.unsoundUses(), due[i]);
            }
        });
        s.says("at that moment.", x -> {
            // Unsound at the request and after one tick, and sound from 21 on; the commit comes at 22.
            x.setUncertainty(0, 5, 100);
            x.synchronize(0, 16);
            Check.due("commit", x.commit(x.begin(0)), 21);
            x.synchronize(0, 8);
            x.advance(100);
            Check.due("commitTime(0)", x.commitTime(0), 22);
            Check.due("unsoundUses() of the request alone", x.unsoundUses(), 1);
            // Sound after one tick, and unsound from 160 on; the commit comes at 161.
            x.setUncertainty(1, 5, 0);
            x.synchronize(1, 56);
            Check.due("commit", x.commit(x.begin(1)), 161);
            x.synchronize(1, 0);
            x.setDrift(1, 100);
            x.advance(100);
            Check.due("commitTime(1)", x.commitTime(1), 161);
            Check.due("unsoundUses() of the request and the commit", x.unsoundUses(), 3);
        });
        s.says("at that moment.", x -> {
            // Sound at the commit, at 10, and no more at the end of the call.
            x.setUncertainty(0, 5, 0);
            x.setDrift(0, 100);
            x.commit(x.begin(0));
            Check.due("advance(1000)", x.advance(1000), 1);
            Check.due("commitTime(0)", x.commitTime(0), 10);
            Check.due("isSound(0) at the end", x.isSound(0), false);
            Check.due("unsoundUses()", x.unsoundUses(), 0);
            // Unsound at the request and at the commit, and sound at the end of the call.
            x.synchronize(1, 8);
            x.setUncertainty(1, 0, 100);
            x.commit(x.begin(1));
            Check.due("unsoundUses() of the request", x.unsoundUses(), 1);
            Check.due("advance(1000)", x.advance(1000), 1);
            Check.due("commitTime(1)", x.commitTime(1), 1002);
            Check.due("isSound(1) at the end", x.isSound(1), true);
            Check.due("unsoundUses() of the commit", x.unsoundUses(), 2);
        });
    }
}
