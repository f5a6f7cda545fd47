/** Section 6: texts. */
final class Section6 {
    private static final int NONE = CommitWaitStore.NONE;
    /** 76 characters, and four more fit. */
    private static final String MANY = "b0;".repeat(25) + "b";

    private Section6() {
    }

    static void test(Sentences s) {
        s.at("Section 6");
        buffer(s);
        commandsAndSemicolons(s);
        numbers(s);
        commandsOfTransactions(s);
        commandsOfTime(s);
        errorPosition(s);
        endsTooEarly(s);
    }

    private static void buffer(Sentences s) {
        s.says("The text buffer holds at most 80 characters and is empty at first.", x -> {
            Check.due("textLength() at first", x.textLength(), 0);
            Check.due("clearText() at first", x.clearText(), 0);
            for (int length = 1; length <= 80; length++) {
                Check.due("appendText", x.appendText(';'), length);
            }
            Check.illegalState("the character 81", () -> x.appendText(';'));
            Check.due("textLength()", x.textLength(), 80);
            x.clearText();
            Check.due("appendText after clearText()", x.appendText(';'), 1);
        });
    }

    private static void commandsAndSemicolons(Sentences s) {
        s.says("A valid text consists of one or more commands,", x -> {
            Check.position("", 0);
            Check.position("b0", NONE);
            Check.position("b0;t1", NONE);
            Check.position("b0;r0,0;w0,0,0;c0;a0;t1;s0,0;s0,-1", NONE);
            Check.position(MANY + "0;b0", NONE);
            Check.position("w39,7,9999;".repeat(7) + "c39", NONE);
        });
        s.says("with one semicolon between two commands.", x -> {
            Check.position("b0b0", 2);
            Check.position("b0,b0", 2);
            Check.position("b0 ;b0", 2);
            Check.position("b0; b0", 3);
            Check.position("b0;;b0", 3);
            Check.position(";b0", 0);
            Check.position(";", 0);
            Check.position("b0;", 3);
            Check.position("b0;b0;", 6);
            Check.position("r0,0;;", 5);
        });
        s.says("A command is one of the following,", x -> {
            for (char c = 32; c <= 126; c++) {
                CommitWaitStore y = new CommitWaitStore();
                y.appendText(c);
                Check.due("errorPosition() of " + c, y.errorPosition(), "brwcats".indexOf(c) >= 0 ? 1 : 0);
            }
        });
    }

    /** A number's place: 0 is taken, and with any digit behind it is not. */
    private static void zeroAlone(String before, String after) {
        int at = before.length() + 1;
        Check.position(before + "0" + after, NONE);
        Check.position(before + "00" + after, at);
        Check.position(before + "01" + after, at);
        Check.position(before + "09" + after, at);
    }

    private static void numbers(Sentences s) {
        s.says("where <n> stands for a decimal number without leading zeros (0 is written as \"0\"):", x -> {
            zeroAlone("b", "");
            zeroAlone("r", ",0");
            zeroAlone("r0,", "");
            zeroAlone("w", ",0,0");
            zeroAlone("w0,", ",0");
            zeroAlone("w0,0,", "");
            zeroAlone("c", "");
            zeroAlone("a", "");
            zeroAlone("s", ",0");
            zeroAlone("s0,", "");
            Check.position("t01", 1);
            Check.position("s0,-01", 4);
        });
        s.says("where <n> stands for a decimal number", x -> {
            String[] starts = {"b", "r", "r0,", "w", "w0,", "w0,0,", "c", "a", "t", "s", "s0,", "s0,-"};
            for (String start : starts) {
                for (char c : new char[] {'/', ':', ' ', '+', '.', ';', ',', 'x', '-'}) {
                    boolean isSign = start.equals("s0,") && c == '-';
                    Check.position(start + c, start.length() + (isSign ? 1 : 0));
                }
            }
        });
    }

    /** The least and the greatest number are taken; the one after the greatest errs at its last digit. */
    private static void bounds(String before, int least, int greatest, String after) {
        Check.position(before + least + after, NONE);
        Check.position(before + greatest + after, NONE);
        String more = String.valueOf(greatest + 1);
        Check.position(before + more + after, before.length() + more.length() - 1);
        String longer = greatest + "0";
        Check.position(before + longer + after, before.length() + longer.length() - 1);
    }

    private static void commandsOfTransactions(Sentences s) {
        s.says("\"b<n>\": begin a transaction at the server n, 0 to 2;", x -> {
            bounds("b", 0, 2, "");
            Check.position("b1", NONE);
            Check.position("b1,", 2);
            Check.position("b-1", 1);
            Check.due("runText()", Check.executed(x, "b2;b0"), 2);
            x.synchronize(2, 50);
            Check.due("commit at the server 2", x.commit(0), 55);
            Check.due("commit at the server 0", x.commit(1), 5);
        });
        s.says("\"r<n>,<n>\": the transaction (first number, 0 to 39) reads the key (second number, 0 to 7);", x -> {
            bounds("r", 0, 39, ",0");
            bounds("r0,", 0, 7, "");
            Check.position("r0", 2);
            Check.position("r0;", 2);
            Check.position("r0,0,", 4);
            Check.due("runText()", Check.executed(x, "b0;b0;r1,7"), 3);
            Check.due("recordedTimestamp", x.recordedTimestamp(1, 7), 0);
            Check.due("recordedTimestamp", x.recordedTimestamp(0, 7), NONE);
            Check.due("recordedTimestamp", x.recordedTimestamp(1, 1), NONE);
        });
        s.says("\"w<n>,<n>,<n>\": the transaction (0 to 39) writes to the key (0 to 7) the value (0 to 9999);", x -> {
            bounds("w", 0, 39, ",0,0");
            bounds("w0,", 0, 7, ",0");
            bounds("w0,0,", 0, 9999, "");
            Check.position("w0,0", 4);
            Check.position("w0,0;", 4);
            Check.position("w0,0,0,", 6);
            Check.due("runText()", Check.executed(x, "b0;b0;w1,7,9999;w0,6,0"), 4);
            Check.due("bufferedValue", x.bufferedValue(1, 7), 9999);
            Check.due("bufferedValue", x.bufferedValue(0, 6), 0);
            Check.due("bufferedValue", x.bufferedValue(0, 7), NONE);
        });
        s.says("\"c<n>\": request the commit of the transaction (0 to 39);", x -> {
            bounds("c", 0, 39, "");
            Check.position("c1,", 2);
            Check.due("runText()", Check.executed(x, "b0;b0;c1"), 3);
            Check.due("state", x.state(1), CommitWaitStore.WAITING);
            Check.due("state", x.state(0), CommitWaitStore.OPEN);
        });
        s.says("\"a<n>\": abort the transaction (0 to 39);", x -> {
            bounds("a", 0, 39, "");
            Check.position("a1,", 2);
            Check.due("runText()", Check.executed(x, "b0;b0;a1"), 3);
            Check.due("state", x.state(1), CommitWaitStore.ABORTED);
            Check.due("state", x.state(0), CommitWaitStore.OPEN);
        });
        s.says("(0 to 39)", x -> {
            for (int i = 0; i < 40; i++) {
                x.begin(0);
            }
            Check.due("runText(), the first and the last one", Check.executed(x, "r0,0;r39,7;w0,1,1;w39,6,1;a0;c39"), 6);
            Check.due("state", x.state(0), CommitWaitStore.ABORTED);
            Check.due("state", x.state(39), CommitWaitStore.WAITING);
        });
    }

    private static void commandsOfTime(Sentences s) {
        s.says("\"t<n>\": advance the true time by n ticks, 1 to 1000;", x -> {
            bounds("t", 1, 1000, "");
            Check.position("t0", 1);
            Check.position("t999", NONE);
            Check.position("t1,", 2);
            Check.position("t-1", 1);
            Check.due("runText()", Check.executed(x, "t1;t1000"), 2);
            Check.due("trueTime()", x.trueTime(), 1001);
        });
        s.says("\"s<n>,<n>\" or \"s<n>,-<n>\": synchronize the clock of the server (0 to 2) with the offset (0 to 500,", x -> {
            bounds("s", 0, 2, ",0");
            bounds("s0,", 0, 500, "");
            Check.position("s0", 2);
            Check.position("s0;", 2);
            Check.position("s-1", 1);
            Check.position("s0,1,", 4);
            Check.due("runText()", Check.executed(x, "s2,500;s0,1"), 2);
            Check.due("reading(2)", x.reading(2), 500);
            Check.due("reading(0)", x.reading(0), 1);
            x.synchronize(0, 7);
            Check.due("runText()", Check.executed(x, "s0,0"), 1);
            Check.due("reading(0)", x.reading(0), 0);
        });
        s.says("or the negative of a number from 1 to 500).", x -> {
            bounds("s0,-", 1, 500, "");
            Check.position("s0,-0", 4);
            Check.position("s0,--1", 4);
            Check.position("s0,+1", 3);
            Check.position("s0,1-", 4);
            Check.due("runText()", Check.executed(x, "s2,-500;s0,-1"), 2);
            Check.due("reading(2)", x.reading(2), -500);
            Check.due("reading(0)", x.reading(0), -1);
        });
    }

    private static void errorPosition(Sentences s) {
        s.says("The error position of a text is the smallest index i such that no valid text of any length begins with the "
                + "characters 0 to i of the text.", x -> {
            Check.position("x", 0);
            Check.position("xx", 0);
            Check.position("b3;x", 1);
            Check.position("b0;x;x", 3);
            Check.position("w40,8,10000", 2);
            Check.position("w4,8,10000", 3);
            Check.position("w4,7,10000", 9);
            Check.position("r1,7x;b9", 4);
            Check.position(MANY + "0;bx", 79);
            Check.position(MANY + "0;b3", 79);
            Check.position(MANY + "0;xx", 78);
        });
        s.says("no valid text of any length", x -> {
            // What would make these texts valid no longer fits in the buffer.
            Check.position(MANY + "0;r1", 80);
            Check.position(MANY + "0;s2", 80);
            Check.position("c10;".repeat(20), 80);
            Check.position("c10;".repeat(18) + "c1;w0,0,", 80);
        });
    }

    private static void endsTooEarly(Sentences s) {
        s.says("If there is no such index and the text is not valid (it ends too early, or it is empty), the error "
                + "position is the length of the text.", x -> {
            String text = "b2;r39,7;w39,7,9999;c39;a39;t1000;s2,-500;s2,500";
            String command = "(b[0-2]|r\\d+,\\d|w\\d+,\\d,\\d+|[cat]\\d+|s\\d,-?\\d+)";
            Check.due("errorPosition() of the empty text", x.errorPosition(), 0);
            for (int length = 1; length <= text.length(); length++) {
                x.appendText(text.charAt(length - 1));
                String soFar = text.substring(0, length);
                boolean isValid = soFar.matches(command + "(;" + command + ")*");
                Check.due("errorPosition() of " + soFar, x.errorPosition(), isValid ? NONE : length);
            }
            x.clearText();
            Check.due("errorPosition() of the text that was emptied", x.errorPosition(), 0);
        });
    }
}
