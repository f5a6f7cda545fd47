/** Promises 12 to 15 and 48: the text buffer, its check and its run. */
public final class TextTest {
    private static final int NONE = CommitWaitStore.NONE;

    public static void main(String[] arguments) {
        buffer();
        validTexts();
        errorPositions();
        running();
        endsOfRuns();
        outcomesOfCommits();
        undoOfRuns();
        throwingCallsChangeNothing();
        Check.end("TextTest");
    }

    private static void buffer() {
        CommitWaitStore x = new CommitWaitStore();
        Check.argument("appendText(31)", () -> x.appendText(31));
        Check.argument("appendText(127)", () -> x.appendText(127));
        Check.argument("appendText(-1)", () -> x.appendText(-1));
        Check.argument("appendText of a number whose low bits are a letter", () -> x.appendText(65536 + 'b'));
        Check.due("appendText(32)", x.appendText(32), 1);
        Check.due("appendText(126)", x.appendText(126), 2);
        for (int i = 3; i <= 80; i++) {
            Check.due("appendText", x.appendText('b'), i);
        }
        Check.illegalState("appendText to 80 characters", () -> x.appendText('b'));
        Check.argument("appendText(127) to 80 characters", () -> x.appendText(127));
        Check.due("textLength()", x.textLength(), 80);
        Check.due("clearText()", x.clearText(), 80);
        Check.due("clearText()", x.clearText(), 0);
        Check.due("textLength()", x.textLength(), 0);
        Check.due("the text is not undoable", x.savedStates(), 0);
    }

    private static void position(String text, int want) {
        CommitWaitStore x = new CommitWaitStore();
        Check.append(x, text);
        Check.due("errorPosition() of " + text, x.errorPosition(), want);
        Check.due("errorPosition() again", x.errorPosition(), want);
        Check.due("textLength()", x.textLength(), text.length());
        if (want != NONE) {
            Check.illegalState("runText() of " + text, x::runText);
            Check.due("savedStates()", x.savedStates(), 0);
        }
    }

    private static void validTexts() {
        String[] texts = {"b0", "b2", "r0,0", "r39,7", "w0,0,0", "w39,7,9999", "w10,1,10", "c0", "c39", "a0",
            "a39", "a9", "t1", "t1000", "t999", "s0,0", "s2,500", "s1,-1", "s0,-500", "b0;b1;b2", "t1;s0,-5;c3"};
        for (String text : texts) {
            position(text, NONE);
        }
        position("b0;b0;b0;b0;b0;b0;b0;b0;b0;b0;b0;b0;b0;b0;b0;b0;b0;b0;b0;b0;b0;b0;b0;b0;b0;b0;b0", NONE);
    }

    private static void errorPositions() {
        position("", 0);
        position("x", 0);
        position(";", 0);
        position("B0", 0);
        position(" b0", 0);
        position("0", 0);
        position("b", 1);
        position("b3", 1);
        position("b,", 1);
        position("b-1", 1);
        position("b00", 2);
        position("b10", 2);
        position("b0 ", 2);
        position("b0,", 2);
        position("b0;", 3);
        position("b0;;", 3);
        position("b0;x", 3);
        position("b0;b", 4);
        position("b0b0", 2);
        position("r", 1);
        position("r4", 2);
        position("r40", 2);
        position("r39", 3);
        position("r390", 3);
        position("r07", 2);
        position("r0;", 2);
        position("r0,", 3);
        position("r0,8", 3);
        position("r0,0,", 4);
        position("r0,00", 4);
        position("r,", 1);
        position("w0,0", 4);
        position("w0,0;", 4);
        position("w0,0,", 5);
        position("w0,0,-", 5);
        position("w0,0,00", 6);
        position("w0,0,9999,", 9);
        position("w0,0,10000", 9);
        position("w0,0,99990", 9);
        position("w40,", 2);
        position("w3,8,1", 3);
        position("c40", 2);
        position("c,", 1);
        position("c1,", 2);
        position("a40", 2);
        position("a", 1);
        position("t0", 1);
        position("t", 1);
        position("t1001", 4);
        position("t10000", 5);
        position("t2000", 4);
        position("t-1", 1);
        position("s3", 1);
        position("s0", 2);
        position("s0,", 3);
        position("s0,-", 4);
        position("s0,-0", 4);
        position("s0,--1", 4);
        position("s0,00", 4);
        position("s0,501", 5);
        position("s0,-501", 6);
        position("s0,600", 5);
        position("s0,5000", 6);
        position("s0,-5000", 7);
        position("s-1", 1);
        position("s0,1-", 4);
        position("b0;b0;b0;b0;b0;b0;b0;b0;b0;b0;b0;b0;b0;b0;b0;b0;b0;b0;b0;b0;b0;b0;b0;b0;b0;b0;", 78);
        position("b0;b0;b0;b0;b0;b0;b0;b0;b0;b0;b0;b0;b0;b0;b0;b0;b0;b0;b0;b0;b0;b0;b0;b0;b0;b0;t", 79);
    }

    private static void running() {
        CommitWaitStore x = new CommitWaitStore();
        Check.append(x, "b1;b2;w0,3,42;r1,4;a1;t10;s0,-7;c0;s2,33;t15");
        Check.due("runText()", x.runText(), 10);
        Check.due("textLength()", x.textLength(), 44);
        Check.due("savedStates()", x.savedStates(), 1);
        Check.due("transactions()", x.transactions(), 2);
        Check.due("bufferedValue", x.bufferedValue(0, 3), 42);
        Check.due("recordedTimestamp", x.recordedTimestamp(1, 4), 0);
        Check.due("state", x.state(1), CommitWaitStore.ABORTED);
        Check.due("trueTime()", x.trueTime(), 25);
        Check.due("reading(0)", x.reading(0), 18);
        Check.due("reading(2)", x.reading(2), 58);
        Check.due("requestTime", x.requestTime(0), 10);
        Check.due("timestamp", x.timestamp(0), 16);
        Check.due("commitTime", x.commitTime(0), 23);
        Check.due("the second run is the third and fourth transaction's", x.runText(), 2);
        Check.due("transactions()", x.transactions(), 4);
        Check.due("savedStates()", x.savedStates(), 2);
    }

    private static int executed(CommitWaitStore x, String text) {
        x.clearText();
        Check.append(x, text);
        return x.runText();
    }

    /** A run ends before the first command whose method would throw. */
    private static void endsOfRuns() {
        CommitWaitStore x = new CommitWaitStore();
        Check.due("no such transaction", executed(x, "r0,0;b0"), 0);
        Check.due("savedStates() though nothing is executed", x.savedStates(), 1);
        Check.due("transactions()", x.transactions(), 0);
        Check.due("no such transaction, write", executed(x, "b0;w1,0,0;b0"), 1);
        Check.due("no such transaction, commit", executed(x, "b0;c2;b0"), 1);
        Check.due("no such transaction, abort", executed(x, "t5;a39;t5"), 1);
        Check.due("trueTime()", x.trueTime(), 5);
        Check.due("not open, abort", executed(x, "a0;a0;b0"), 1);
        Check.due("not open, read", executed(x, "r1,0;r0,0;b0"), 1);
        Check.due("not open, write", executed(x, "w0,0,0;b0"), 0);
        Check.due("not open, commit", executed(x, "c1;c1"), 1);
        Check.due("transactions()", x.transactions(), 2);
        for (int i = 2; i < 39; i++) {
            x.begin(0);
        }
        Check.due("40 transactions", executed(x, "b1;b1;t1"), 1);
        Check.due("trueTime()", x.trueTime(), 5);
    }

    private static void outcomesOfCommits() {
        CommitWaitStore x = new CommitWaitStore();
        Check.due("a lock counts as executed",
                executed(x, "b0;b1;r1,0;w0,0,1;w1,0,2;c0;c1;t1"), 8);
        Check.due("state", x.state(1), CommitWaitStore.OPEN);
        Check.due("trueTime()", x.trueTime(), 1);
        Check.due("savedStates()", x.savedStates(), 1);
        Check.due("only a lock", executed(x, "c1"), 1);
        Check.due("savedStates()", x.savedStates(), 2);
        Check.due("a conflict counts as executed", executed(x, "t50;c1;b2"), 3);
        Check.due("state", x.state(1), CommitWaitStore.ABORTED);
        Check.due("transactions()", x.transactions(), 3);
    }

    private static void undoOfRuns() {
        CommitWaitStore x = new CommitWaitStore();
        x.advance(7);
        executed(x, "b0;b0;b0;t3;t3;t3;t3;s0,5");
        Check.due("savedStates()", x.savedStates(), 2);
        Check.due("undo()", x.undo(), 1);
        Check.due("trueTime()", x.trueTime(), 7);
        Check.due("transactions()", x.transactions(), 0);
        Check.due("reading(0)", x.reading(0), 7);
        Check.due("the text stays", x.textLength(), 25);
    }

    private static void throwingCallsChangeNothing() {
        CommitWaitStore x = new CommitWaitStore();
        Check.append(x, "b0;t5;");
        String before = Check.everything(x);
        Check.illegalState("runText()", x::runText);
        Check.argument("appendText(200)", () -> x.appendText(200));
        Check.due("the store after calls that throw", Check.everything(x), before);
    }
}
