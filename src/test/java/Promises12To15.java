/** Promises 12 to 15: texts. */
final class Promises12To15 {
    private static final int NONE = CommitWaitStore.NONE;

    private Promises12To15() {
    }

    static void test(Sentences s) {
        appendText(s);
        clearText(s);
        errorPosition(s);
        runText(s);
        runEnds(s);
        runCounts(s);
        runRefused(s);
    }

    private static void appendText(Sentences s) {
        s.at("Promise 12");
        s.says("Appends a character to the text buffer.", x -> {
            x.appendText('t');
            x.appendText('1');
            x.appendText('2');
            x.runText();
            Check.due("trueTime() after the text t12", x.trueTime(), 12);
        });
        s.says("`character`: a character code, 32 to 126", x -> {
            Check.due("appendText(32)", x.appendText(32), 1);
            Check.due("appendText(126)", x.appendText(126), 2);
            Check.due("errorPosition()", x.errorPosition(), 0);
        });
        s.says("Returns the length of the text after the call.", x -> {
            for (int length = 1; length <= 80; length++) {
                Check.due("appendText", x.appendText(31 + length), length);
                Check.due("textLength()", x.textLength(), length);
            }
        });
        s.says("Throws `IllegalArgumentException` if the character code is out of range", x -> {
            Check.range("appendText", 32, 126, Check.ARGUMENT, n -> x.appendText(n));
            Check.argument("appendText of a letter and 65536", () -> x.appendText(65536 + 'b'));
            Check.argument("appendText of a letter and 256", () -> x.appendText(256 + 'b'));
            Check.argument("appendText(0)", () -> x.appendText(0));
            Check.due("textLength()", x.textLength(), 2);
        });
        s.says("Throws `IllegalStateException` if the text has 80 characters", x -> {
            Check.append(x, "c10;".repeat(19) + "c10");
            Check.due("appendText to 79 characters", x.appendText('1'), 80);
            Check.illegalState("appendText to 80 characters", () -> x.appendText('1'));
            Check.due("textLength()", x.textLength(), 80);
            Check.due("errorPosition()", x.errorPosition(), 79);
            x.clearText();
            Check.due("appendText after clearText()", x.appendText('b'), 1);
        });
    }

    private static void clearText(Sentences s) {
        s.at("Promise 13");
        s.says("Empties the text buffer.", x -> {
            Check.append(x, "b0");
            x.clearText();
            Check.due("textLength()", x.textLength(), 0);
            Check.due("errorPosition()", x.errorPosition(), 0);
            Check.illegalState("runText()", x::runText);
            Check.append(x, "t3");
            Check.due("runText()", x.runText(), 1);
            Check.due("transactions()", x.transactions(), 0);
            Check.due("trueTime()", x.trueTime(), 3);
        });
        s.says("Returns the length of the text before the call.", x -> {
            Check.due("clearText() of no character", x.clearText(), 0);
            x.appendText('b');
            Check.due("clearText() of one character", x.clearText(), 1);
            Check.due("clearText() of no character", x.clearText(), 0);
            Check.append(x, "c10;".repeat(20));
            Check.due("clearText() of 80 characters", x.clearText(), 80);
        });
    }

    private static void errorPosition(Sentences s) {
        s.at("Promise 14");
        s.says("Checks the text.", x -> {
            Check.append(x, "b0;r0,0;t5;");
            String before = Check.everything(x);
            Check.due("errorPosition()", x.errorPosition(), 11);
            Check.due("the store after the check", Check.everything(x), before);
            x.appendText('a');
            x.appendText('0');
            Check.due("errorPosition()", x.errorPosition(), NONE);
            Check.due("transactions()", x.transactions(), 0);
        });
        s.says("Returns NONE if the text is valid, otherwise its error position.", x -> {
            Check.position("", 0);
            Check.position("b0", NONE);
            Check.position("x", 0);
            Check.position("b", 1);
            Check.position("b0;", 3);
            // A text may be valid though its commands can't be executed.
            Check.position("c39;r39,7;w39,7,9999;a39;t1000;t1000", NONE);
            Check.position("c10;".repeat(19) + "c10", NONE);
            Check.position("c10;".repeat(19) + "c10x", 79);
            Check.position("c10;".repeat(20), 80);
        });
    }

    private static void runText(Sentences s) {
        s.at("Promise 15");
        s.says("Executes the commands of the text in their order, as begin(), read(), write(), commit(), abort(), advance() "
                + "and synchronize() do.", x -> {
            CommitWaitStore y = new CommitWaitStore();
            Check.due("runText()", Check.executed(x, "b2;w0,7,9999;r0,0;b1;s2,-3;c0;a1;b0;t1000;r2,7;s1,500"), 11);
            y.begin(2);
            y.write(0, 7, 9999);
            y.read(0, 0);
            y.begin(1);
            y.synchronize(2, -3);
            y.commit(0);
            y.abort(1);
            y.begin(0);
            y.advance(1000);
            y.read(2, 7);
            y.synchronize(1, 500);
            Check.due("the store after the text", Check.stateOf(x), Check.stateOf(y));
            Check.due("recordedTimestamp", x.recordedTimestamp(2, 7), 2);
        });
        s.says("Executes the commands of the text in their order,", x -> {
            Check.executed(x, "b0;t3;s0,7;t4;s0,-7;w0,1,5;w0,1,6");
            Check.due("reading(0), the last offset", x.reading(0), 0);
            Check.due("bufferedValue, the last value", x.bufferedValue(0, 1), 6);
            x.advance(1);
            Check.due("latest(0), synchronized at 7", x.latest(0), 7);
        });
        s.says("The text stays in the buffer.", x -> {
            Check.due("runText()", Check.executed(x, "b0;t1"), 2);
            Check.due("textLength()", x.textLength(), 5);
            Check.due("runText() again", x.runText(), 2);
            Check.due("transactions()", x.transactions(), 2);
            x.appendText('0');
            Check.due("runText() of the longer text", x.runText(), 2);
            Check.due("trueTime()", x.trueTime(), 12);
        });
        s.says("Undoable, as one call, also if no command is executed.", x -> {
            x.advance(1);
            Check.append(x, "b0;t5;b0;t5;b0;t5;b0;t5;b0;t5");
            Check.undone("runText() of ten commands", x, y -> y.runText());
            x.clearText();
            Check.append(x, "c0;b0");
            Check.undone("runText() that executes nothing", x, y -> y.runText());
            Check.due("undo()", x.undo(), 0);
            Check.due("trueTime()", x.trueTime(), 0);
        });
        s.says("Undoable, as one call,", x -> {
            x.commit(Check.writer(x, 0, 0, 1));
            int locked = Check.writer(x, 0, 0, 2);
            Check.append(x, "c1");
            Check.undone("runText() of a request that is locked out", x, y -> y.runText());
            Check.due("state", x.state(locked), CommitWaitStore.OPEN);
        });
    }

    private static void runEnds(Sentences s) {
        s.says("Execution ends before the first command for which the method would throw an exception.", x -> {
            Check.due("no such transaction to read", Check.executed(x, "b0;r1,0;t1"), 1);
            Check.due("no such transaction to write", Check.executed(x, "r0,0;w1,0,0;t1"), 1);
            Check.due("no such transaction to commit", Check.executed(x, "r0,0;c1;t1"), 1);
            Check.due("no such transaction to abort", Check.executed(x, "r0,0;a1;t1"), 1);
            Check.due("no such transaction, the last number", Check.executed(x, "a39;t1"), 0);
            Check.due("one that is aborted", Check.executed(x, "a0;r0,0;t1"), 1);
            Check.due("one that is aborted", Check.executed(x, "w0,0,0;t1"), 0);
            Check.due("one that is aborted", Check.executed(x, "c0;t1"), 0);
            Check.due("one that is aborted", Check.executed(x, "a0;t1"), 0);
            Check.due("one that waits", Check.executed(x, "b0;c1;r1,0;t1"), 2);
            Check.due("one that waits", Check.executed(x, "w1,0,0;t1"), 0);
            Check.due("one that waits", Check.executed(x, "c1;t1"), 0);
            Check.due("one that waits", Check.executed(x, "a1;t1"), 0);
            Check.due("trueTime()", x.trueTime(), 0);
            Check.due("one that is committed", Check.executed(x, "t12;c1;t1"), 1);
            Check.due("trueTime()", x.trueTime(), 12);
        });
        s.says("Execution ends before the first command", x -> {
            for (int i = 0; i < 39; i++) {
                x.begin(0);
            }
            Check.due("the fortieth is the last that begins", Check.executed(x, "t1;b2;b2;t1"), 2);
            Check.due("transactions()", x.transactions(), 40);
            Check.due("trueTime()", x.trueTime(), 1);
            CommitWaitStore late = Check.storeAt(998999);
            Check.due("up to 999999", Check.executed(late, "t1000;t2;s0,5"), 1);
            Check.due("trueTime()", late.trueTime(), 999999);
            Check.due("up to 1000000", Check.executed(late, "t1;s0,5;t1;b0"), 2);
            Check.due("trueTime()", late.trueTime(), 1000000);
            Check.due("reading(0)", late.reading(0), 1000005);
        });
        s.says("A commit request that results in CONFLICT or LOCKED counts as executed, and execution goes on behind it.", x -> {
            Check.due("a lock", Check.executed(x, "b0;b1;r1,0;w0,0,1;c0;c1;t12"), 7);
            Check.due("state", x.state(1), CommitWaitStore.OPEN);
            Check.due("trueTime()", x.trueTime(), 12);
            Check.due("a conflict", Check.executed(x, "c1;t1;c1;t1"), 2);
            Check.due("state", x.state(1), CommitWaitStore.ABORTED);
            Check.due("trueTime()", x.trueTime(), 13);
            Check.executed(x, "b0;w2,0,1;b0;w3,0,1;c2");
            Check.due("a lock alone", Check.executed(x, "c3"), 1);
            Check.due("a lock twice", Check.executed(x, "c3;c3"), 2);
        });
    }

    private static void runCounts(Sentences s) {
        s.says("Returns the number of commands that are executed.", x -> {
            Check.due("none of one", Check.executed(x, "c0"), 0);
            Check.due("one of one", Check.executed(x, "b0"), 1);
            Check.due("one of two", Check.executed(x, "b0;c9"), 1);
            Check.due("two of two", Check.executed(x, "b0;c0"), 2);
            Check.due("27 of 27", Check.executed(x, "b0;".repeat(26) + "b0"), 27);
            Check.due("transactions()", x.transactions(), 30);
            Check.due("10 of 27", x.runText(), 10);
            Check.due("none of 27", x.runText(), 0);
        });
    }

    private static void invalid(String text) {
        CommitWaitStore x = new CommitWaitStore();
        Check.append(x, text);
        Check.illegalState("runText() of " + text, x::runText);
        Check.due("trueTime()", x.trueTime(), 0);
        Check.due("transactions()", x.transactions(), 0);
        Check.due("savedStates()", x.savedStates(), 0);
        Check.due("textLength()", x.textLength(), text.length());
    }

    private static void runRefused(Sentences s) {
        s.says("Throws `IllegalStateException` if the text is not valid", x -> {
            invalid("");
            invalid(";");
            invalid("x");
            invalid("t");
            invalid("t1;");
            invalid("t1;;b0");
            invalid("t1;b");
            invalid("t1;b3");
            invalid("t1;t1001");
            invalid("t1;t0");
            invalid("t1;s0,-0");
            invalid("t1;s0,-501");
            invalid("t1;w0,0,10000");
            invalid("t1;r40,0");
            invalid("t1 ");
            invalid("b0;".repeat(26) + "b3");
            invalid("c10;".repeat(20));
        });
    }
}
