/** Promises 16 to 24: undo and slots, and the queries about time and clocks. */
final class Promises16To24 {
    private Promises16To24() {
    }

    static void test(Sentences s) {
        undo(s);
        save(s);
        restore(s);
        trueTime(s);
        reading(s);
        earliest(s);
        latest(s);
        isSound(s);
        nextTimestamp(s);
    }

    private static void undo(Sentences s) {
        s.at("Promise 16");
        s.says("Restores the state that was saved last, and removes it from the saved states.", x -> {
            for (int i = 1; i <= 8; i++) {
                x.advance(i);
            }
            int[] times = {28, 21, 15, 10, 6, 3};
            for (int i = 0; i < 6; i++) {
                x.undo();
                Check.due("trueTime()", x.trueTime(), times[i]);
                Check.due("savedStates()", x.savedStates(), 5 - i);
            }
            x.advance(100);
            x.undo();
            Check.due("trueTime()", x.trueTime(), 3);
            Check.due("savedStates(), an undo saves nothing", x.savedStates(), 0);
        });
        s.says("Restores the state that was saved last,", x -> {
            // Calls and undos in turn lead round the six places many times.
            int[] expected = new int[200];
            int saved = 0;
            for (int i = 0; i < 60; i++) {
                expected[saved] = x.trueTime();
                saved++;
                x.advance(1 + i % 7);
                if (i % 3 == 2) {
                    saved--;
                    x.undo();
                    Check.due("trueTime() after undo() " + i, x.trueTime(), expected[saved]);
                }
            }
            for (int i = 1; i <= 5; i++) {
                Check.due("undo()", x.undo(), 5 - i);
                Check.due("trueTime() after the last undos", x.trueTime(), expected[saved - i]);
            }
        });
        s.says("Returns the number of saved states that remain.", x -> {
            for (int i = 0; i < 7; i++) {
                x.begin(0);
            }
            for (int remain = 5; remain >= 0; remain--) {
                Check.due("undo()", x.undo(), remain);
            }
            x.begin(0);
            Check.due("undo() of the only one", x.undo(), 0);
        });
        s.says("Throws `IllegalStateException` if there is no saved state", x -> {
            Check.illegalState("undo() at first", x::undo);
            x.begin(0);
            Check.due("undo() of one", x.undo(), 0);
            Check.illegalState("undo() after the only one", x::undo);
            for (int i = 0; i < 7; i++) {
                x.advance(1);
            }
            for (int i = 0; i < 6; i++) {
                Check.taken("undo()", x::undo);
            }
            Check.illegalState("undo() of a seventh", x::undo);
            Check.due("trueTime()", x.trueTime(), 1);
        });
    }

    private static void save(Sentences s) {
        s.at("Promise 17");
        s.says("Copies the state into a slot and replaces what the slot held.", x -> {
            x.begin(0);
            x.save(0);
            x.advance(3);
            x.write(0, 0, 7);
            x.restore(0);
            Check.due("trueTime()", x.trueTime(), 0);
            Check.due("bufferedValue", x.bufferedValue(0, 0), CommitWaitStore.NONE);
            x.advance(5);
            x.save(0);
            x.advance(1);
            x.restore(0);
            Check.due("trueTime(), the slot was replaced", x.trueTime(), 5);
        });
        s.says("`slot`: 0 or 1", x -> {
            x.advance(1);
            x.save(0);
            x.advance(1);
            x.save(1);
            x.restore(0);
            Check.due("trueTime()", x.trueTime(), 1);
            x.restore(1);
            Check.due("trueTime()", x.trueTime(), 2);
        });
        s.says("Copies the state into a slot", x -> {
            x.save(0);
            Check.due("savedStates(), a save is not undoable", x.savedStates(), 0);
            x.advance(1);
            x.save(0);
            x.save(1);
            Check.due("savedStates(), a save is not undoable", x.savedStates(), 1);
        });
        s.says("Returns the true time.", x -> {
            Check.due("save(0), the least", x.save(0), 0);
            x.advance(1);
            Check.due("save(0)", x.save(0), 1);
            Check.due("save(1), the greatest", Check.storeAt(1000000).save(1), 1000000);
        });
        s.says("Throws `IndexOutOfBoundsException` if there is no such slot", x ->
                Check.range("save", 0, 1, Check.INDEX, n -> x.save(n)));
    }

    private static void restore(Sentences s) {
        s.at("Promise 18");
        s.says("Replaces the state by the one in a slot; the slot keeps its copy.", x -> {
            x.begin(0);
            x.save(1);
            for (int i = 0; i < 3; i++) {
                x.write(0, i, i);
                x.advance(20);
                x.begin(1);
                x.restore(1);
                Check.due("trueTime()", x.trueTime(), 0);
                Check.due("transactions()", x.transactions(), 1);
                for (int key = 0; key < 8; key++) {
                    Check.due("bufferedValue", x.bufferedValue(0, key), CommitWaitStore.NONE);
                }
            }
        });
        s.says("Undoable.", x -> {
            x.save(0);
            x.advance(9);
            Check.undone("restore(0)", x, y -> y.restore(0));
            Check.due("trueTime()", x.trueTime(), 9);
        });
        s.says("`slot`: 0 or 1", x -> {
            x.save(1);
            x.advance(4);
            x.save(0);
            Check.due("restore(1)", x.restore(1), 0);
            Check.due("restore(0)", x.restore(0), 4);
        });
        s.says("Returns the true time after the call.", x -> {
            x.save(0);
            Check.goTo(x, 1000000);
            x.save(1);
            Check.due("restore(0), the least", x.restore(0), 0);
            Check.due("restore(1), the greatest", x.restore(1), 1000000);
        });
        s.says("Throws `IndexOutOfBoundsException` if there is no such slot", x -> {
            Check.index("restore(2), both are empty", () -> x.restore(2));
            Check.index("restore(-1), both are empty", () -> x.restore(-1));
            x.save(0);
            x.save(1);
            Check.range("restore", 0, 1, Check.INDEX, n -> x.restore(n));
        });
        s.says("Throws `IllegalStateException` if the slot is empty", x -> {
            Check.illegalState("restore(0) at first", () -> x.restore(0));
            Check.illegalState("restore(1) at first", () -> x.restore(1));
            x.save(0);
            Check.illegalState("restore(1), the other is full", () -> x.restore(1));
            Check.due("restore(0)", x.restore(0), 0);
            x.undo();
            Check.due("restore(0), an undo empties no slot", x.restore(0), 0);
        });
    }

    private static void trueTime(Sentences s) {
        s.at("Promise 19");
        s.says("Returns the true time.", x -> {
            Check.due("trueTime(), the least", x.trueTime(), 0);
            x.advance(1);
            Check.due("trueTime()", x.trueTime(), 1);
            Check.goTo(x, 1000000);
            Check.due("trueTime(), the greatest", x.trueTime(), 1000000);
        });
    }

    private static void reading(Sentences s) {
        s.at("Promise 20");
        s.says("Returns the reading of a clock.", x -> {
            x.synchronize(0, -500);
            Check.due("reading(0)", x.reading(0), -500);
            x.advance(500);
            Check.due("reading(0)", x.reading(0), 0);
        });
        s.says("`server`: 0 to 2", x -> {
            x.synchronize(0, 10);
            x.synchronize(2, 30);
            Check.due("reading(0)", x.reading(0), 10);
            Check.due("reading(1)", x.reading(1), 0);
            Check.due("reading(2)", x.reading(2), 30);
        });
        s.says("Returns the reading.", x -> {
            x.setDrift(0, -1);
            x.advance(1);
            Check.due("reading(0), the offset is rounded down", x.reading(0), 0);
            x.advance(999);
            Check.due("reading(0)", x.reading(0), 999);
            x.advance(1);
            Check.due("reading(0)", x.reading(0), 999);
        });
        s.says("Throws `IndexOutOfBoundsException` if there is no such server", x ->
                Check.range("reading", 0, 2, Check.INDEX, n -> x.reading(n)));
    }

    private static void earliest(Sentences s) {
        s.at("Promise 21");
        s.says("Returns the earliest time of a clock.", x -> {
            Check.due("earliest(0)", x.earliest(0), -5);
            x.advance(1);
            Check.due("earliest(0)", x.earliest(0), -5);
            x.advance(1);
            Check.due("earliest(0)", x.earliest(0), -4);
        });
        s.says("`server`: 0 to 2", x -> {
            x.synchronize(0, 10);
            x.setUncertainty(2, 0, 0);
            Check.due("earliest(0)", x.earliest(0), 5);
            Check.due("earliest(1)", x.earliest(1), -5);
            Check.due("earliest(2)", x.earliest(2), 0);
        });
        s.says("Returns the earliest time.", x -> {
            x.setUncertainty(0, 500, 100);
            x.synchronize(0, -500);
            x.setDrift(0, -100);
            Check.due("earliest(0), the least at 0", x.earliest(0), -1000);
            x.advance(1);
            Check.due("earliest(0), both quotients are rounded", x.earliest(0), -1001);
        });
        s.says("Throws `IndexOutOfBoundsException` if there is no such server", x ->
                Check.range("earliest", 0, 2, Check.INDEX, n -> x.earliest(n)));
    }

    private static void latest(Sentences s) {
        s.at("Promise 22");
        s.says("Returns the latest time of a clock.", x -> {
            Check.due("latest(0)", x.latest(0), 5);
            x.advance(1);
            Check.due("latest(0)", x.latest(0), 7);
            x.advance(1);
            Check.due("latest(0)", x.latest(0), 8);
        });
        s.says("`server`: 0 to 2", x -> {
            x.synchronize(0, 10);
            x.setUncertainty(2, 0, 0);
            Check.due("latest(0)", x.latest(0), 15);
            Check.due("latest(1)", x.latest(1), 5);
            Check.due("latest(2)", x.latest(2), 0);
        });
        s.says("Returns the latest time.", x -> {
            x.setUncertainty(0, 500, 100);
            x.synchronize(0, 500);
            x.setDrift(0, 100);
            Check.due("latest(0), the greatest at 0", x.latest(0), 1000);
            x.advance(1);
            Check.due("latest(0), the uncertainty alone is rounded up", x.latest(0), 1002);
            x.advance(9);
            Check.due("latest(0), both quotients are 1", x.latest(0), 1012);
        });
        s.says("Throws `IndexOutOfBoundsException` if there is no such server", x ->
                Check.range("latest", 0, 2, Check.INDEX, n -> x.latest(n)));
    }

    private static void isSound(Sentences s) {
        s.at("Promise 23");
        s.says("Tells whether a clock is sound.", x -> {
            for (int offset : new int[] {-500, -6, -5, 0, 5, 6, 500}) {
                x.synchronize(0, offset);
                Check.due("isSound(0), offset " + offset, x.isSound(0), -5 <= offset && offset <= 5);
            }
        });
        s.says("`server`: 0 to 2", x -> {
            x.synchronize(0, 6);
            x.synchronize(2, -6);
            Check.due("isSound(0)", x.isSound(0), false);
            Check.due("isSound(1)", x.isSound(1), true);
            Check.due("isSound(2)", x.isSound(2), false);
        });
        s.says("Returns true if the clock is sound now.", x -> {
            x.setDrift(0, 100);
            x.setDrift(1, -100);
            // The offset of 0 becomes 7 at 70, that of 1 becomes -7 at 61; the uncertainty is 6.
            x.advance(69);
            Check.due("isSound(0) at 69", x.isSound(0), true);
            Check.due("isSound(1) at 69", x.isSound(1), false);
            x.advance(1);
            Check.due("isSound(0) at 70", x.isSound(0), false);
            x.undo();
            x.undo();
            x.advance(60);
            Check.due("isSound(1) at 60", x.isSound(1), true);
            x.advance(1);
            Check.due("isSound(1) at 61", x.isSound(1), false);
        });
        s.says("Throws `IndexOutOfBoundsException` if there is no such server", x ->
                Check.range("isSound", 0, 2, Check.INDEX, n -> x.isSound(n) ? 1 : 0));
    }

    private static void nextTimestamp(Sentences s) {
        s.at("Promise 24");
        s.says("Returns the next timestamp of a server (section 5).", x -> {
            Check.due("nextTimestamp(0)", x.nextTimestamp(0), 5);
            x.commit(x.begin(0));
            Check.due("nextTimestamp(0)", x.nextTimestamp(0), 6);
            x.advance(1);
            Check.due("nextTimestamp(0)", x.nextTimestamp(0), 7);
        });
        s.says("`server`: 0 to 2", x -> {
            x.synchronize(0, 10);
            x.synchronize(2, -3);
            Check.due("nextTimestamp(0)", x.nextTimestamp(0), 15);
            Check.due("nextTimestamp(1)", x.nextTimestamp(1), 5);
            Check.due("nextTimestamp(2)", x.nextTimestamp(2), 2);
        });
        s.says("Returns the next timestamp.", x -> {
            x.synchronize(0, -500);
            Check.due("nextTimestamp(0), the least", x.nextTimestamp(0), 1);
            x.snapshotRead(0, 0);
            Check.due("nextTimestamp(0), the least", x.nextTimestamp(0), 1);
            x.commit(x.begin(0));
            Check.due("nextTimestamp(0), one is assigned", x.nextTimestamp(0), 2);
            x.undo();
            Check.due("nextTimestamp(0) after the undo", x.nextTimestamp(0), 1);
        });
        s.says("Throws `IndexOutOfBoundsException` if there is no such server", x ->
                Check.range("nextTimestamp", 0, 2, Check.INDEX, n -> x.nextTimestamp(n)));
    }
}
