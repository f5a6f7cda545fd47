/** Section 2: keys and versions. */
final class Section2 {
    private Section2() {
    }

    static void test(Sentences s) {
        s.at("Section 2");
        keys(s);
        timestamps(s);
        newest(s);
        values(s);
    }

    private static void keys(Sentences s) {
        s.says("There are eight keys, numbered 0 to 7.", x -> {
            x.begin(0);
            Check.range("read, key", 0, 7, Check.INDEX, n -> x.read(0, n));
            Check.range("write, key", 0, 7, Check.INDEX, n -> x.write(0, n, 0));
            Check.range("snapshotRead, key", 0, 7, Check.INDEX, n -> x.snapshotRead(n, 0));
            Check.range("bufferedValue, key", 0, 7, Check.INDEX, n -> x.bufferedValue(0, n));
            Check.range("recordedTimestamp, key", 0, 7, Check.INDEX, n -> x.recordedTimestamp(0, n));
            Check.range("versions, key", 0, 7, Check.INDEX, n -> x.versions(n));
            Check.range("versionTimestamp, key", 0, 7, Check.INDEX, n -> x.versionTimestamp(n, 0));
            Check.range("valueAt, key", 0, 7, Check.INDEX, n -> x.valueAt(n, 0));
            Check.range("replayedValueAt, key", 0, 7, Check.INDEX, n -> x.replayedValueAt(n, 0));
            Check.range("waitingWriter, key", 0, 7, Check.INDEX, n -> x.waitingWriter(n));
            Check.range("readerMark, key", 0, 7, Check.INDEX, n -> x.readerMark(n));
        });
        s.says("There are eight keys,", x -> {
            int t = x.begin(0);
            for (int key = 0; key < 8; key++) {
                Check.due("write to key " + key, x.write(t, key, 10 + key), key + 1);
            }
            x.commit(t);
            x.advance(12);
            for (int key = 0; key < 8; key++) {
                Check.due("valueAt, key " + key, x.valueAt(key, 5), 10 + key);
            }
        });
        s.says("At first each key has one version, with the timestamp 0 and the value 0.", x -> {
            for (int key = 0; key < 8; key++) {
                Check.due("versions", x.versions(key), 1);
                Check.due("versionTimestamp", x.versionTimestamp(key, 0), 0);
                Check.due("valueAt 0", x.valueAt(key, 0), 0);
                Check.due("read", x.read(x.begin(0), key), 0);
                int only = key;
                Check.index("versionTimestamp of a second version", () -> x.versionTimestamp(only, 1));
            }
        });
    }

    /** The version 0 of the timestamp 5 is there at 12, and a server whose latest time is given writes. */
    private static void secondVersion(int latest, int due) {
        CommitWaitStore x = new CommitWaitStore();
        Check.due("commit of the first writer", x.commit(Check.writer(x, 0, 3, 1)), 5);
        x.advance(12);
        int second = Check.writer(x, 1, 3, 2);
        x.synchronize(1, latest - 17);
        Check.due("commit with the latest time " + latest, x.commit(second), due);
        x.advance(100);
        Check.due("versions", x.versions(3), 3);
        int[] timestamps = {0, 5, due};
        for (int index = 0; index < 3; index++) {
            Check.due("versionTimestamp " + index, x.versionTimestamp(3, index), timestamps[index]);
        }
        Check.due("valueAt of the second", x.valueAt(3, due), 2);
        Check.due("valueAt of the first", x.valueAt(3, due - 1), 1);
    }

    private static void timestamps(Sentences s) {
        s.says("Each key has versions; a version has a timestamp and a value, and the timestamps of the versions of a "
                + "key are all different.", x -> {
            secondVersion(4, 6);
            secondVersion(5, 6);
            secondVersion(6, 6);
            secondVersion(7, 7);
        });
    }

    private static void newest(Sentences s) {
        s.says("The newest version of a key is the one with the greatest timestamp.", x -> {
            Check.due("read, the first version", x.read(x.begin(0), 4), 0);
            Check.due("recordedTimestamp", x.recordedTimestamp(0, 4), 0);
            for (int i = 1; i <= 3; i++) {
                x.commit(Check.writer(x, 0, 4, 100 - i));
                x.advance(20);
                int t = x.begin(1);
                Check.due("read", x.read(t, 4), 100 - i);
                Check.due("recordedTimestamp", x.recordedTimestamp(t, 4), x.versionTimestamp(4, i));
            }
            Check.due("recordedTimestamp, the greatest", x.recordedTimestamp(6, 4), 46);
        });
    }

    private static void values(Sentences s) {
        s.says("The value of a key at a timestamp x is the value of the version with the greatest timestamp among those "
                + "with a timestamp of at most x.", x -> {
            for (int i = 1; i <= 3; i++) {
                x.commit(Check.writer(x, 0, 6, 10 * i));
                x.advance(20);
            }
            // The timestamps are 5, 26 and 46.
            int[] at = {0, 1, 4, 5, 6, 25, 26, 27, 45, 46, 47, Check.MOST};
            int[] due = {0, 0, 0, 10, 10, 10, 20, 20, 20, 30, 30, 30};
            for (int i = 0; i < at.length; i++) {
                Check.due("valueAt(6, " + at[i] + ")", x.valueAt(6, at[i]), due[i]);
            }
            for (int i = 0; i < 10; i++) {
                Check.due("snapshotRead(6, " + at[i] + ")", x.snapshotRead(6, at[i]), due[i]);
            }
        });
    }
}
