/** What it is, the beginning of the terms, and section 1: time and clocks. */
final class Section1 {
    private Section1() {
    }

    static void test(Sentences s) {
        s.at("What it is");
        whole(s);
        s.at("Terms");
        quotients(s);
        s.at("Section 1");
        trueTime(s);
        servers(s);
        offset(s);
        uncertainty(s);
        bounds(s);
        soundness(s);
    }

    private static void whole(Sentences s) {
        s.says("A transactional key-value store that takes commit timestamps from clocks with bounded uncertainty, "
                + "and that delays each commit until its timestamp has surely passed (commit wait).", x -> {
            for (int offset : new int[] {-5, 0, 5}) {
                CommitWaitStore y = new CommitWaitStore();
                y.synchronize(0, offset);
                int timestamp = y.commit(y.begin(0));
                y.advance(100);
                Check.due("the commit comes after its timestamp", y.commitTime(0) > timestamp, true);
            }
        });
        s.says("An object is used for at most 512 calls after it has been made; what later calls answer is free.", x -> {
            for (int call = 1; call <= 511; call++) {
                Check.due("advance(1), call " + call, x.advance(1), 0);
            }
            Check.due("trueTime(), call 512", x.trueTime(), 511);
        });
        s.says("An object is used for at most 512 calls after it has been made;", x -> {
            for (int call = 1; call < 512; call += 2) {
                Check.due("begin(0), call " + call, x.begin(0), 0);
                Check.due("undo(), call " + (call + 1), x.undo(), 0);
            }
        });
    }

    private static void quotients(Sentences s) {
        s.says("All quantities are integers.", x -> {
            x.setDrift(0, 1);
            x.advance(999);
            Check.due("reading(0), 0.999 fast", x.reading(0), 999);
            x.setDrift(0, 1);
            x.advance(999);
            Check.due("reading(0), the 0.999 of before is lost", x.reading(0), 1998);
            x.advance(1);
            Check.due("reading(0), 1 fast", x.reading(0), 2000);
        });
        s.says("A quotient that is \"rounded down\" is rounded toward negative infinity;", x -> {
            x.setDrift(0, -1);
            x.setDrift(1, 1);
            int[] times = {1, 999, 1000, 1001, 2000, 2001};
            int[] slow = {-1, -1, -1, -2, -2, -3};
            int[] fast = {0, 0, 1, 1, 2, 2};
            for (int i = 0; i < times.length; i++) {
                x.advance(times[i] - x.trueTime());
                Check.due("the quotient -0.001 * " + times[i], x.reading(0) - times[i], slow[i]);
                Check.due("the quotient 0.001 * " + times[i], x.reading(1) - times[i], fast[i]);
            }
        });
        s.says("one that is \"rounded up\" is rounded toward positive infinity.", x -> {
            x.setUncertainty(0, 0, 1);
            int[] times = {0, 1, 999, 1000, 1001, 2000, 2001};
            int[] due = {0, 1, 1, 1, 2, 2, 3};
            for (int i = 0; i < times.length; i++) {
                Check.goTo(x, times[i]);
                Check.due("the quotient 0.001 * " + times[i], x.latest(0) - times[i], due[i]);
            }
        });
    }

    private static void trueTime(Sentences s) {
        s.says("The true time is a number of ticks from 0 to 1000000.", x -> {
            Check.due("trueTime(), the least", x.trueTime(), 0);
            Check.argument("advance(-1) at 0", () -> x.advance(-1));
            Check.illegalState("undo() at 0", x::undo);
            Check.due("trueTime()", x.trueTime(), 0);
            CommitWaitStore y = Check.storeAt(999999);
            Check.illegalState("advance(2) at 999999", () -> y.advance(2));
            Check.due("trueTime()", y.trueTime(), 999999);
            Check.due("advance(1) at 999999", y.advance(1), 0);
            Check.due("trueTime(), the greatest", y.trueTime(), 1000000);
            Check.illegalState("advance(1) at 1000000", () -> y.advance(1));
            Check.due("t1 at 1000000", Check.executed(y, "t1"), 0);
            Check.due("trueTime()", y.trueTime(), 1000000);
        });
        s.says("It is 0 at first.", x -> Check.due("trueTime()", x.trueTime(), 0));
        s.says("It is changed by advance(), by the commands of a text that advance it, and by undo() and restore(),", x -> {
            x.advance(1);
            Check.due("trueTime() after advance(1)", x.trueTime(), 1);
            Check.executed(x, "t2;b0;t3");
            Check.due("trueTime() after t2 and t3", x.trueTime(), 6);
            x.save(0);
            x.undo();
            Check.due("trueTime() after undo()", x.trueTime(), 1);
            x.restore(0);
            Check.due("trueTime() after restore(0)", x.trueTime(), 6);
        });
        s.says("and by nothing else.", x -> {
            x.advance(7);
            callAllThatLeaveTheTime(x);
            Check.due("trueTime() after all other calls", x.trueTime(), 7);
        });
    }

    private static void callAllThatLeaveTheTime(CommitWaitStore x) {
        x.begin(0);
        x.read(0, 0);
        x.write(0, 0, 1);
        x.commit(0);
        x.abort(x.begin(1));
        x.begin(2);
        x.synchronize(0, 100);
        x.setDrift(0, 100);
        x.setUncertainty(0, 0, 100);
        x.snapshotRead(0, 1);
        Check.executed(x, "b0;r2,1;w2,1,5;c2;a3;s0,9");
        x.errorPosition();
        x.undo();
        x.save(0);
        x.restore(0);
        Check.everything(x);
        x.countInState(0);
        x.ticksUntilSafe(500);
    }

    private static void servers(Sentences s) {
        s.says("There are three servers, numbered 0 to 2.", x -> {
            Check.range("begin", 0, 2, Check.INDEX, n -> x.begin(n));
            Check.range("synchronize", 0, 2, Check.INDEX, n -> x.synchronize(n, 0));
            Check.range("setDrift", 0, 2, Check.INDEX, n -> x.setDrift(n, 0));
            Check.range("setUncertainty", 0, 2, Check.INDEX, n -> x.setUncertainty(n, 0, 0));
            Check.range("reading", 0, 2, Check.INDEX, n -> x.reading(n));
            Check.range("earliest", 0, 2, Check.INDEX, n -> x.earliest(n));
            Check.range("latest", 0, 2, Check.INDEX, n -> x.latest(n));
            Check.range("isSound", 0, 2, Check.INDEX, n -> x.isSound(n) ? 1 : 0);
            Check.range("nextTimestamp", 0, 2, Check.INDEX, n -> x.nextTimestamp(n));
        });
        s.says("Each server has a clock with the following values; initial values are in parentheses.", x -> {
            for (int changed = 0; changed < 3; changed++) {
                CommitWaitStore y = new CommitWaitStore();
                y.synchronize(changed, 50);
                y.setDrift(changed, 10);
                y.setUncertainty(changed, 7, 3);
                y.advance(100);
                for (int server = 0; server < 3; server++) {
                    Check.due("reading(" + server + ")", y.reading(server), server == changed ? 151 : 100);
                    Check.due("earliest(" + server + ")", y.earliest(server), server == changed ? 143 : 94);
                    Check.due("latest(" + server + ")", y.latest(server), server == changed ? 159 : 106);
                }
            }
        });
    }

    private static void offset(Sentences s) {
        s.says("The offset base (0), the offset time (0) and the drift (0).", x -> {
            for (int server = 0; server < 3; server++) {
                Check.due("reading(" + server + ") at 0", x.reading(server), 0);
            }
            x.advance(1000);
            for (int server = 0; server < 3; server++) {
                Check.due("reading(" + server + ") at 1000", x.reading(server), 1000);
                Check.due("setDrift(" + server + ", 0)", x.setDrift(server, 0), 0);
            }
        });
        s.says("The offset of the clock at the true time t is the offset base plus drift * (t - offset time) / 1000, "
                + "rounded down.", x -> {
            x.synchronize(1, 3);
            x.advance(20);
            x.setDrift(0, 100);
            x.setDrift(1, -100);
            int[] times = {20, 21, 29, 30, 31, 39, 40, 41};
            int[] fast = {0, 0, 0, 1, 1, 1, 2, 2};
            int[] slow = {3, 2, 2, 2, 1, 1, 1, 0};
            for (int i = 0; i < times.length; i++) {
                Check.goTo(x, times[i]);
                Check.due("offset of 0 and drift of 100 at " + times[i], x.reading(0) - times[i], fast[i]);
                Check.due("offset of 3 and drift of -100 at " + times[i], x.reading(1) - times[i], slow[i]);
            }
        });
        s.says("The offset of the clock at the true time t is", x -> {
            x.synchronize(0, 500);
            x.synchronize(1, -500);
            x.setDrift(0, 100);
            x.setDrift(1, -100);
            Check.goTo(x, 1000000);
            Check.due("the greatest offset", x.reading(0), 1100500);
            Check.due("the least offset", x.reading(1), 899500);
        });
        s.says("The reading of the clock is the true time plus the offset.", x -> {
            x.synchronize(0, 500);
            x.synchronize(1, -500);
            Check.due("the greatest reading at 0", x.reading(0), 500);
            Check.due("the least reading at 0", x.reading(1), -500);
            x.advance(1);
            Check.due("reading(0) at 1", x.reading(0), 501);
            Check.due("reading(1) at 1", x.reading(1), -499);
            Check.due("reading(2) at 1", x.reading(2), 1);
        });
    }

    private static void uncertainty(Sentences s) {
        s.says("The base uncertainty (5), the growth (2) and the synchronization time (0).", x -> {
            int[] times = {0, 1, 500, 501, 1000, 1001};
            int[] due = {5, 6, 6, 7, 7, 8};
            for (int i = 0; i < times.length; i++) {
                Check.goTo(x, times[i]);
                for (int server = 0; server < 3; server++) {
                    Check.due("uncertainty at " + times[i], x.latest(server) - times[i], due[i]);
                }
            }
        });
        s.says("The uncertainty of the clock at the true time t is the base uncertainty plus growth * "
                + "(t - synchronization time) / 1000, rounded up.", x -> {
            x.advance(7);
            x.setUncertainty(0, 3, 100);
            x.synchronize(0, 0);
            x.setUncertainty(1, 500, 0);
            int[] times = {7, 8, 17, 18, 27, 28};
            int[] due = {3, 4, 4, 5, 5, 6};
            for (int i = 0; i < times.length; i++) {
                Check.goTo(x, times[i]);
                Check.due("base 3 and growth 100 at " + times[i], x.latest(0) - times[i], due[i]);
                Check.due("base 500 and growth 0 at " + times[i], x.latest(1) - times[i], 500);
            }
        });
        s.says("The uncertainty of the clock at the true time t is", x -> {
            x.setUncertainty(0, 500, 100);
            x.setUncertainty(1, 0, 0);
            Check.goTo(x, 1000000);
            Check.due("the greatest uncertainty", x.latest(0) - 1000000, 100500);
            Check.due("the least uncertainty", x.latest(1) - 1000000, 0);
        });
    }

    private static void bounds(Sentences s) {
        s.says("The earliest time of a clock is its reading minus its uncertainty.", x -> {
            for (int offset : new int[] {-500, -5, 0, 5, 500}) {
                x.synchronize(2, offset);
                Check.due("earliest(2)", x.earliest(2), offset - 5);
            }
            x.advance(1);
            Check.due("earliest(2) at 1", x.earliest(2), 1 + 500 - 6);
        });
        s.says("The latest time of a clock is its reading plus its uncertainty.", x -> {
            for (int offset : new int[] {-500, -5, 0, 5, 500}) {
                x.synchronize(2, offset);
                Check.due("latest(2)", x.latest(2), offset + 5);
            }
            x.advance(1);
            Check.due("latest(2) at 1", x.latest(2), 1 + 500 + 6);
        });
    }

    private static void soundness(Sentences s) {
        s.says("A clock is sound if its earliest time is at most the true time", x -> {
            x.advance(1000);
            x.synchronize(0, 5);
            Check.due("isSound(0), earliest 1000 at 1000", x.isSound(0), true);
            x.synchronize(0, 6);
            Check.due("isSound(0), earliest 1001 at 1000", x.isSound(0), false);
            x.advance(1);
            Check.due("isSound(0), earliest 1001 at 1001", x.isSound(0), true);
            x.synchronize(1, 500);
            Check.due("isSound(1), far ahead", x.isSound(1), false);
        });
        s.says("and its latest time is at least the true time.", x -> {
            x.advance(1000);
            x.synchronize(0, -5);
            Check.due("isSound(0), latest 1000 at 1000", x.isSound(0), true);
            x.synchronize(0, -6);
            Check.due("isSound(0), latest 999 at 1000", x.isSound(0), false);
            x.advance(1);
            Check.due("isSound(0), latest 1001 at 1001", x.isSound(0), true);
            x.synchronize(1, -500);
            Check.due("isSound(1), far behind", x.isSound(1), false);
        });
        s.says("A clock is sound if", x -> {
            for (int offset = -1; offset <= 1; offset++) {
                x.setUncertainty(0, 0, 0);
                x.synchronize(0, offset);
                Check.due("isSound(0) without uncertainty, offset " + offset, x.isSound(0), offset == 0);
            }
        });
    }
}
