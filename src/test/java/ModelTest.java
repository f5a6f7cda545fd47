import java.util.ArrayList;
import java.util.List;

/**
 * Many runs of 512 calls, the same on the class and on the model; every answer is compared, the
 * exceptions too. The calls are drawn by a generator with a fixed seed, so that all runs are the
 * same each time.
 */
public final class ModelTest {
    private static final int RUNS = 900;
    private static final int CALLS = 512;
    private static final int KINDS = 6;

    private final CommitWaitStore store = new CommitWaitStore();
    private final Model model = new Model();
    private final List<String> told = new ArrayList<>();
    private final int run;
    private long seed;
    private boolean wrong = false;

    private ModelTest(int run) {
        this.run = run;
        this.seed = run * 7919L + 17;
    }

    public static void main(String[] arguments) {
        for (int run = 0; run < RUNS && Check.allDue(); run++) {
            new ModelTest(run).go();
        }
        Check.end("ModelTest");
    }

    private void go() {
        if (run % KINDS == 5) {
            goFar();
        }
        while (told.size() < CALLS && !wrong) {
            switch (draw(10)) {
                case 0, 1, 2, 3 -> callOfTransaction();
                case 4 -> callOfClock();
                case 5, 6 -> query();
                case 7 -> callOfPast();
                case 8 -> callOfText();
                default -> advance();
            }
        }
    }

    /** Near the greatest true time, where advances are refused. */
    private void goFar() {
        type("t1000;t1000;t1000;t1000;t1000;t1000;t1000;t1000;t1000;t1000;t1000;t1000;t1000");
        int texts = 70 + draw(8);
        for (int i = 0; i < texts; i++) {
            same("runText()", store::runText, model::runText);
        }
        same("clearText()", store::clearText, model::clearText);
    }

    private int draw(int bound) {
        seed = seed * 6364136223846793005L + 1442695040888963407L;
        return (int) ((seed >>> 33) % bound);
    }

    private boolean seldom() {
        return draw(25) == 0;
    }

    private int pick(int... numbers) {
        return numbers[draw(numbers.length)];
    }

    private int server() {
        return seldom() ? pick(-1, 3, -2147483648, 2147483647) : draw(3);
    }

    private int key() {
        return seldom() ? pick(-1, 8, -2147483648, 2147483647) : draw(run % KINDS == 1 ? 8 : 3);
    }

    private int transaction() {
        int begun = model.transactions();
        if (seldom() || begun == 0) {
            return pick(-1, begun, 39, 40, -2147483648, 2147483647);
        }
        return draw(3) > 0 ? Math.max(0, begun - 1 - draw(4)) : draw(begun);
    }

    private int value() {
        return seldom() ? pick(-1, 0, 9999, 10000, 2147483647, -2147483648) : draw(10000);
    }

    private int slot() {
        return seldom() ? pick(-1, 2, 2147483647, -2147483648) : draw(2);
    }

    private int time() {
        switch (draw(8)) {
            case 0: return pick(-1, 0, 2147483647, -2147483648);
            case 1: return Math.max(0, model.safeTime() + 1 + draw(3));
            case 2: return model.trueTime() + draw(12000);
            case 3: return model.trueTime() + draw(300);
            case 4: return draw(model.safeTime() + 1);
            default: return Math.max(0, model.safeTime() - draw(20));
        }
    }

    private void callOfTransaction() {
        int t = transaction();
        int k = key();
        int v = value();
        switch (draw(12)) {
            case 0, 1 -> {
                int s = server();
                same("begin(" + s + ")", () -> store.begin(s), () -> model.begin(s));
            }
            case 2, 3, 4 -> same("read(" + t + ", " + k + ")", () -> store.read(t, k), () -> model.read(t, k));
            case 5, 6, 7 -> same("write(" + t + ", " + k + ", " + v + ")",
                    () -> store.write(t, k, v), () -> model.write(t, k, v));
            case 8 -> same("abort(" + t + ")", () -> store.abort(t), () -> model.abort(t));
            default -> same("commit(" + t + ")", () -> store.commit(t), () -> model.commit(t));
        }
    }

    private void advance() {
        int n = seldom() ? pick(0, -1, 1000, 1001, 2147483647, -2147483648)
                : draw(3) == 0 ? 1 + draw(1000) : 1 + draw(30);
        same("advance(" + n + ")", () -> store.advance(n), () -> model.advance(n));
    }

    private void callOfClock() {
        int s = server();
        int small = run % KINDS == 2 ? 5 : 501;
        switch (draw(4)) {
            case 0 -> {
                int o = seldom() ? pick(-501, -500, 500, 501, 2147483647, -2147483648) : draw(2 * small - 1) - small + 1;
                same("synchronize(" + s + ", " + o + ")", () -> store.synchronize(s, o), () -> model.synchronize(s, o));
            }
            case 1 -> {
                int d = draw(3) == 0 ? pick(-101, -100, 100, 101, 2147483647, -2147483648) : draw(201) - 100;
                same("setDrift(" + s + ", " + d + ")", () -> store.setDrift(s, d), () -> model.setDrift(s, d));
            }
            case 2 -> {
                int b = seldom() ? pick(-1, 500, 501, 2147483647, -2147483648) : draw(small);
                int g = draw(3) == 0 ? pick(-1, 100, 101, 2147483647, -2147483648) : draw(101);
                same("setUncertainty(" + s + ", " + b + ", " + g + ")",
                        () -> store.setUncertainty(s, b, g), () -> model.setUncertainty(s, b, g));
            }
            default -> advance();
        }
    }

    private void callOfPast() {
        int s = slot();
        int k = key();
        int x = time();
        switch (draw(8)) {
            case 0, 1 -> same("undo()", store::undo, model::undo);
            case 2 -> same("save(" + s + ")", () -> store.save(s), () -> model.save(s));
            case 3 -> same("restore(" + s + ")", () -> store.restore(s), () -> model.restore(s));
            default -> same("snapshotRead(" + k + ", " + x + ")",
                    () -> store.snapshotRead(k, x), () -> model.snapshotRead(k, x));
        }
    }

    private void callOfText() {
        switch (draw(5)) {
            case 0 -> same("clearText()", store::clearText, model::clearText);
            case 1 -> same("errorPosition()", store::errorPosition, model::errorPosition);
            case 2 -> {
                int c = pick(31, 32, 126, 127, -1, 2147483647, ';', ',', '-', '0', '9', 'b');
                same("appendText(" + c + ")", () -> store.appendText(c), () -> model.appendText(c));
            }
            default -> typeAndRun();
        }
    }

    private void typeAndRun() {
        if (told.size() > CALLS - 60) {
            return;
        }
        if (draw(4) > 0) {
            same("clearText()", store::clearText, model::clearText);
        }
        StringBuilder text = new StringBuilder();
        int commands = 1 + draw(6);
        for (int i = 0; i < commands; i++) {
            text.append(model.textLength() + i == 0 || seldom() ? "" : ";").append(command());
        }
        if (seldom()) {
            text.deleteCharAt(draw(text.length()));
        }
        type(text.toString());
        same("errorPosition()", store::errorPosition, model::errorPosition);
        same("runText()", store::runText, model::runText);
    }

    private void type(String text) {
        for (int i = 0; i < text.length(); i++) {
            int c = text.charAt(i);
            same("appendText(" + c + ")", () -> store.appendText(c), () -> model.appendText(c));
        }
    }

    private String command() {
        boolean wild = draw(60) == 0;
        int t = wild ? pick(38, 39, 40, 99) : Math.abs(transaction() % 40);
        int k = wild ? pick(7, 8, 70) : draw(4);
        int s = wild ? pick(2, 3, 20) : draw(3);
        switch (draw(9)) {
            case 0: return "b" + s;
            case 1: return "r" + t + "," + k;
            case 2: return "w" + t + "," + k + "," + (wild ? pick(9999, 10000, 99999) : draw(10000));
            case 3: return "c" + t;
            case 4: return "a" + t;
            case 5: return "t" + (wild ? pick(0, 1000, 1001, 10000) : 1 + draw(1000));
            case 6: return "s" + s + "," + (wild ? pick(500, 501, -500, -501) : draw(41) - 20);
            case 7: return "t" + (1 + draw(20));
            default: return "c" + t;
        }
    }

    private void query() {
        int s = server();
        int t = transaction();
        int k = key();
        int x = time();
        switch (draw(30)) {
            case 0 -> same("trueTime()", store::trueTime, model::trueTime);
            case 1 -> same("reading(" + s + ")", () -> store.reading(s), () -> model.reading(s));
            case 2 -> same("earliest(" + s + ")", () -> store.earliest(s), () -> model.earliest(s));
            case 3 -> same("latest(" + s + ")", () -> store.latest(s), () -> model.latest(s));
            case 4 -> same("isSound(" + s + ")", () -> store.isSound(s) ? 1 : 0, () -> model.isSound(s) ? 1 : 0);
            case 5 -> same("nextTimestamp(" + s + ")", () -> store.nextTimestamp(s), () -> model.nextTimestamp(s));
            case 6 -> same("transactions()", store::transactions, model::transactions);
            case 7 -> same("state(" + t + ")", () -> store.state(t), () -> model.state(t));
            case 8 -> same("timestamp(" + t + ")", () -> store.timestamp(t), () -> model.timestamp(t));
            case 9 -> same("requestTime(" + t + ")", () -> store.requestTime(t), () -> model.requestTime(t));
            case 10 -> same("commitTime(" + t + ")", () -> store.commitTime(t), () -> model.commitTime(t));
            case 11 -> same("bufferedValue(" + t + ", " + k + ")",
                    () -> store.bufferedValue(t, k), () -> model.bufferedValue(t, k));
            case 12 -> same("recordedTimestamp(" + t + ", " + k + ")",
                    () -> store.recordedTimestamp(t, k), () -> model.recordedTimestamp(t, k));
            case 13 -> same("ifCommitted(" + t + ")", () -> store.ifCommitted(t), () -> model.ifCommitted(t));
            case 14, 15 -> same("ticksToCommit(" + t + ")", () -> store.ticksToCommit(t), () -> model.ticksToCommit(t));
            case 16 -> same("versions(" + k + ")", () -> store.versions(k), () -> model.versions(k));
            case 17 -> {
                int i = draw(6) - 1;
                same("versionTimestamp(" + k + ", " + i + ")",
                        () -> store.versionTimestamp(k, i), () -> model.versionTimestamp(k, i));
            }
            case 18 -> same("valueAt(" + k + ", " + x + ")", () -> store.valueAt(k, x), () -> model.valueAt(k, x));
            case 19 -> same("replayedValueAt(" + k + ", " + x + ")",
                    () -> store.replayedValueAt(k, x), () -> model.replayedValueAt(k, x));
            case 20 -> same("waitingWriter(" + k + ")", () -> store.waitingWriter(k), () -> model.waitingWriter(k));
            case 21 -> same("readerMark(" + k + ")", () -> store.readerMark(k), () -> model.readerMark(k));
            case 22 -> same("safeTime()", store::safeTime, model::safeTime);
            case 23 -> same("readFloor()", store::readFloor, model::readFloor);
            case 24, 25 -> same("ticksUntilSafe(" + x + ")", () -> store.ticksUntilSafe(x), () -> model.ticksUntilSafe(x));
            case 26 -> {
                int state = draw(6) - 1;
                same("countInState(" + state + ")", () -> store.countInState(state), () -> model.countInState(state));
            }
            case 27 -> same("totalWait()", store::totalWait, model::totalWait);
            case 28 -> same("unsoundUses()", store::unsoundUses, model::unsoundUses);
            default -> {
                same("inversions()", store::inversions, model::inversions);
                same("savedStates()", store::savedStates, model::savedStates);
                same("textLength()", store::textLength, model::textLength);
            }
        }
    }

    private void same(String call, Check.Call onStore, Check.Call onModel) {
        if (wrong || told.size() >= CALLS) {
            return;
        }
        String got = Check.outcome(onStore);
        String want = Check.outcome(onModel);
        told.add(call + " = " + got);
        if (!got.equals(want)) {
            wrong = true;
            Check.report("run " + run + ": " + String.join("\n  ", told) + "\n  where the model answers " + want);
        }
    }
}
