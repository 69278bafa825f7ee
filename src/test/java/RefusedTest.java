import java.util.NoSuchElementException;

/** Calls that are refused: what each throws, which of several comes first, and that nothing changes. */
public final class RefusedTest {
    private static final Class<?> INDEX = IndexOutOfBoundsException.class;
    private static final Class<?> NONESUCH = NoSuchElementException.class;
    private static final Class<?> ARGUMENT = IllegalArgumentException.class;
    private static final Class<?> STATE = IllegalStateException.class;
    private static final Class<?> UNSUPPORTED = UnsupportedOperationException.class;
    private static final int NONE = CyclicLines.NONE;
    private static final int LEAST = Integer.MIN_VALUE;
    private static final int MOST = Integer.MAX_VALUE;
    private static final int[] NO_LINES = {-1, 2, 3, 4, LEAST, MOST};
    private static final int TAPE = 7;
    private static final int FAULT = 5;

    private final Check check = new Check();

    /** A call on an object whose answer is not looked at, or an exception. */
    private interface On {
        Object call(CyclicLines x);
    }

    public static void main(String[] args) {
        RefusedTest t = new RefusedTest();
        t.noSuchLine();
        t.noLineAtAll();
        t.whats();
        t.acts();
        t.questions();
        t.order();
        t.answersAlone();
        t.tapes();
        t.texts();
        t.thirteenthText();
        t.noneToUndo();
        t.check.end("RefusedTest");
    }

    /** LINE 0 is IN and FORCED, LINE 1 is OUT; acts, an image, a fault and a tape are there. */
    private static CyclicLines busy() {
        CyclicLines x = Check.of("line delay 4 units 2 in;line limit 9;units 0 of 1 2 3;units 1 of 4");
        Check.law(x, "spoil 5 if kept>0;worth 3");
        x.tell(0, 4);
        x.image();
        x.ticks(5);
        x.tune(1, 0, 7);
        Check.outcome(() -> Check.lines(x, "line x"));
        Check.tape(x, "line in");
        return x;
    }

    /** The call throws that; all is as with one of whom it was not asked, but for the tape and fault(). */
    private void refused(String name, Class<?> due, int tape, int fault, On on) {
        CyclicLines x = busy();
        check.due(name, due, () -> on.call(x));
        unchanged(name, x, tape, fault);
    }

    private void unchanged(String name, CyclicLines x, int tape, int fault) {
        CyclicLines y = busy();
        check.same(name + ": fault", fault, x.fault());
        check.same(name + ": the tape", tape + 20, x.feed(0, 0, 0, 0, 0));
        check.same(name + ": nothing changes", Look.at(y), Look.at(x));
        check.same(name + ": the latest act is undone", y.undo(), x.undo());
        check.same(name + ": as ahead of that act", Look.at(y), Look.at(x));
        check.same(name + ": the image is there", y.back(), x.back());
        check.same(name + ": as it was kept", Look.at(y), Look.at(x));
        // What is left of the tape is the text that was fed, or none.
        x.end(tape);
        check.same(name + ": the tape is read", 2, x.lines());
        check.same(name + ": what stood on it", tape == 0 ? 2 : 3, x.count(0));
    }

    private void refused(String name, Class<?> due, On on) {
        refused(name, due, TAPE, FAULT, on);
    }

    /** The call answers that; all is as with one of whom it was not asked. */
    private void asked(String name, Object due, On on) {
        CyclicLines x = busy();
        check.due(name, due, () -> on.call(x));
        unchanged(name, x, TAPE, FAULT);
    }

    private void noSuchLine() {
        for (int n : NO_LINES) {
            refused("7: line " + n, INDEX, x -> x.line(n, 0));
            refused("8: unit of line " + n, INDEX, x -> x.unit(n, 0, 0));
            refused("9: air of line " + n, INDEX, x -> x.air(n, 0, 0));
            refused("10: reply of line " + n, INDEX, x -> x.reply(n, 0));
            refused("12: tell line " + n, INDEX, x -> x.tell(n, 1));
            refused("13: start line " + n, INDEX, x -> x.start(n));
            refused("14: shut line " + n, INDEX, x -> x.shut(n));
            refused("15: tune line " + n, INDEX, x -> x.tune(n, 0, 1));
            refused("16: chance of line " + n, INDEX, x -> x.chance(n));
            refused("24: share of line " + n, INDEX, x -> x.share(n, 1));
            refused("25: rests of line " + n, INDEX, x -> x.rests(n));
            refused("26: odds of line " + n, INDEX, x -> x.odds(n, 1, 1));
            refused("33: led by line " + n, INDEX, x -> x.led(n, false));
            if (n != NONE) {
                refused("23: pairs of line " + n, INDEX, x -> x.pairs(n));
                refused("30: ahead of line " + n, INDEX, x -> x.ahead(n, 1));
            }
        }
        refused("23: line -2", INDEX, x -> x.pairs(-2));
        refused("30: line -2", INDEX, x -> x.ahead(-2, 1));
    }

    /** Without LINES 0 is none; with four 3 is one and 4 is none. */
    private void noLineAtAll() {
        On[] calls = {x -> x.line(0, 0), x -> x.unit(0, 0, 0), x -> x.air(0, 0, 0), x -> x.reply(0, 0),
            x -> x.tell(0, 1), x -> x.start(0), x -> x.shut(0), x -> x.tune(0, 0, 1), x -> x.chance(0),
            x -> x.pairs(0), x -> x.share(0, 0), x -> x.rests(0), x -> x.odds(0, 0, 0), x -> x.ahead(0, 0),
            x -> x.led(0, true)};
        for (int i = 0; i < calls.length; i++) {
            On one = calls[i];
            CyclicLines x = new CyclicLines();
            check.due("1: there is no line for " + i, INDEX, () -> one.call(x));
            check.same("1: still new " + i, Look.at(new CyclicLines()), Look.at(x));
        }
        CyclicLines four = Check.of("line;line;line;line in");
        check.due("7: the fourth", 2, () -> four.line(3, 0));
        check.due("7: a fifth", INDEX, () -> four.line(4, 0));
        check.due("8: the fourth", NONE, () -> four.unit(3, 0, 0));
        check.due("8: a fifth", INDEX, () -> four.unit(4, 0, 0));
        check.due("9: the fourth", 0, () -> four.air(3, 0, 0));
        check.due("9: a fifth", INDEX, () -> four.air(4, 0, 0));
        check.due("10: the fourth", NONE, () -> four.reply(3, 0));
        check.due("10: a fifth", INDEX, () -> four.reply(4, 0));
        check.due("15: the fourth", 0, () -> four.tune(3, 0, 10));
        check.due("15: a fifth", INDEX, () -> four.tune(4, 0, 10));
        check.due("16: the fourth", 10, () -> four.chance(3));
        check.due("16: a fifth", INDEX, () -> four.chance(4));
        check.due("23: the fourth", NONE, () -> four.pairs(3));
        check.due("23: a fifth", INDEX, () -> four.pairs(4));
        check.due("24: the fourth", 1, () -> four.share(3, 4));
        check.due("24: a fifth", INDEX, () -> four.share(4, 4));
        check.due("25: the fourth", 8, () -> four.rests(3));
        check.due("25: a fifth", INDEX, () -> four.rests(4));
        check.due("26: the fourth", 1000, () -> four.odds(3, 1, 1));
        check.due("26: a fifth", INDEX, () -> four.odds(4, 1, 1));
        check.due("30: the fourth", 0, () -> four.ahead(3, 0));
        check.due("30: a fifth", INDEX, () -> four.ahead(4, 0));
        check.due("33: the fourth", 0, () -> four.led(3, false));
        check.due("33: a fifth", INDEX, () -> four.led(4, false));
        check.due("12: the fourth", 0, () -> four.tell(3, 1));
        check.due("12: a fifth", INDEX, () -> four.tell(4, 1));
        check.due("13: the third", 1, () -> four.start(2));
        check.due("13: a fifth", INDEX, () -> four.start(4));
        check.due("14: the fourth", 0, () -> four.shut(3));
        check.due("14: a fifth", INDEX, () -> four.shut(4));
        check.same("36: what was refused is no act", 4, four.count(10));
    }

    private void whats() {
        int[] beyond = {-1, LEAST, MOST};
        for (int what : beyond) {
            refused("7: what " + what, NONESUCH, x -> x.line(0, what));
            refused("8: what " + what, NONESUCH, x -> x.unit(0, 0, what));
            refused("9: what " + what, NONESUCH, x -> x.air(0, 0, what));
            refused("15: what " + what, NONESUCH, x -> x.tune(0, what, 10));
            refused("27: what " + what, NONESUCH, x -> x.most(what));
            refused("28: state " + what, NONESUCH, x -> x.byState(what));
            refused("34: what " + what, NONESUCH, x -> x.log(0, what));
        }
        refused("7: what 21", NONESUCH, x -> x.line(0, 21));
        refused("8: what 3", NONESUCH, x -> x.unit(0, 0, 3));
        refused("9: what 4", NONESUCH, x -> x.air(0, 0, 4));
        refused("15: what 4", NONESUCH, x -> x.tune(0, 4, 10));
        refused("27: what 3", NONESUCH, x -> x.most(3));
        refused("28: state 3", NONESUCH, x -> x.byState(3));
        refused("34: what 4", NONESUCH, x -> x.log(0, 4));
        // Another what goes ahead of a place that there is not.
        refused("8: what 3 of no unit", NONESUCH, x -> x.unit(0, 99, 3));
        refused("9: what 4 of no place", NONESUCH, x -> x.air(0, 99, 4));
        refused("34: what 4 of no row", NONESUCH, x -> x.log(99, 4));
        CyclicLines x = busy();
        check.same("7: what 0", 2, x.line(0, 0));
        check.same("7: what 20 of 10 in 14", 71, x.line(0, 20));
        check.same("8: what 2", 0, x.unit(0, 0, 2));
        check.same("9: what 3", 0, x.air(0, 0, 3));
        check.same("15: what 3", 4, x.tune(0, 3, 20));
        check.same("27: what 2", 0, x.most(2));
        check.same("28: state 0", 2, x.byState(0));
        check.same("28: state 2", 1, x.byState(2));
        check.same("34: what 0", 4, x.log(0, 0));
        check.same("34: what 3", 2, x.log(0, 3));
    }

    private void acts() {
        for (int n : new int[] {0, 61, -1, LEAST, MOST}) {
            refused("11: ticks " + n, ARGUMENT, x -> x.ticks(n));
        }
        for (int n : new int[] {0, 10, -1, LEAST, MOST}) {
            refused("12: length " + n, ARGUMENT, x -> x.tell(0, n));
        }
        refused("13: one that is in", STATE, x -> x.start(0));
        refused("14: one that is out", STATE, x -> x.shut(1));
        int[][] none = {{-1, 101}, {0, 9}, {8, 61}, {0, 21}};
        for (int what = 0; what < 4; what++) {
            for (int n : new int[] {none[what][0], none[what][1], LEAST, MOST}) {
                int of = what;
                refused("15: what " + what + " of " + n, ARGUMENT, x -> x.tune(0, of, n));
            }
        }
        // One that is PROVING is neither OUT (13) nor OUT already (14).
        CyclicLines x = Check.of("line proving");
        check.due("13: one that is proving", STATE, () -> x.start(0));
        check.same("13: no act", 0, x.count(10));
        check.due("14: one that is proving", 0, () -> x.shut(0));
        check.due("14: once", STATE, () -> x.shut(0));
        check.same("14: one act", 1, x.count(10));
        // A QUEUE that has 24.
        CyclicLines y = Check.of("line;units 0 of 1 1 1 1 1 1 1 1 1 1 1 1;units 0 of 1 1 1 1 1 1 1 1 1 1 1");
        check.same("12: 23", 23, y.line(0, 6));
        check.due("12: the 24th", 23, () -> y.tell(0, 1));
        String full = Look.at(y);
        check.due("12: a 25th", STATE, () -> y.tell(0, 1));
        check.same("12: nothing changes", full, Look.at(y));
    }

    private void questions() {
        for (int n : new int[] {-1, 100, LEAST, MOST}) {
            refused("24: N of " + n, ARGUMENT, x -> x.share(0, n));
        }
        for (int n : new int[] {-1, 6, LEAST, MOST}) {
            refused("26: N of " + n, ARGUMENT, x -> x.odds(0, n, 0));
            refused("26: K of " + n, ARGUMENT, x -> x.odds(0, 5, n));
        }
        for (int n : new int[] {-1, 61, LEAST, MOST}) {
            refused("30: N of " + n, ARGUMENT, x -> x.ahead(0, n));
            refused("30: N of all of " + n, ARGUMENT, x -> x.ahead(NONE, n));
            refused("31: N of " + n, ARGUMENT, x -> x.trial(n, false));
            refused("31: N of the lines of " + n, ARGUMENT, x -> x.trial(n, true));
            refused("32: N of " + n, ARGUMENT, x -> x.span(n, false));
            refused("32: N of the most of " + n, ARGUMENT, x -> x.span(n, true));
        }
    }

    /** Of several exceptions the one told first is thrown. */
    private void order() {
        refused("7: no line, another what", INDEX, x -> x.line(2, 21));
        refused("8: no line, another what", INDEX, x -> x.unit(2, 0, 3));
        refused("9: no line, another what", INDEX, x -> x.air(2, 0, 4));
        refused("12: no line, no length", INDEX, x -> x.tell(2, 0));
        refused("15: no line, another what", INDEX, x -> x.tune(2, 4, 10));
        refused("15: no line, no number", INDEX, x -> x.tune(2, 0, 101));
        refused("15: another what, no number", NONESUCH, x -> x.tune(0, 4, 101));
        refused("24: no line, no number", INDEX, x -> x.share(2, 100));
        refused("26: no line, no number", INDEX, x -> x.odds(2, 6, 6));
        refused("30: no line, no number", INDEX, x -> x.ahead(2, 61));
        CyclicLines x = Check.of("line;units 0 of 1 1 1 1 1 1 1 1 1 1 1 1;units 0 of 1 1 1 1 1 1 1 1 1 1 1 1");
        check.due("12: no length, full", ARGUMENT, () -> x.tell(0, 10));
        check.due("12: no line, full", INDEX, () -> x.tell(1, 1));
        check.due("12: full", STATE, () -> x.tell(0, 9));
    }

    /** Calls that answer that there is none, or that it is not so: nothing happens. */
    private void answersAlone() {
        asked("3: end -1", false, x -> x.end(-1));
        asked("3: end 8", false, x -> x.end(8));
        asked("3: end of all", true, x -> x.end(7));
        asked("3: end of the greatest", false, x -> x.end(MOST));
        asked("3: end of the least", false, x -> x.end(LEAST));
        asked("8: unit -1", NONE, x -> x.unit(0, -1, 0));
        asked("8: unit 4", NONE, x -> x.unit(0, 4, 0));
        asked("9: place 4", NONE, x -> x.air(0, 4, 0));
        asked("10: place 4", NONE, x -> x.reply(0, 4));
        asked("18: a fourth of three", NONE, x -> x.split(3));
        asked("34: row 9", NONE, x -> x.log(9, 0));
        asked("39: count 11", NONE, x -> x.count(11));
        asked("39: count -1", NONE, x -> x.count(-1));
        // Questions that look at what comes leave all as it is, too.
        asked("17: clear", true, x -> x.clear() != 99);
        asked("7: window", true, x -> x.line(0, 19) > 0);
        asked("30: ahead", true, x -> x.ahead(NONE, 60) > 0);
        asked("31: trial", true, x -> x.trial(60, false) > 0);
        asked("32: span", true, x -> x.span(60, true) > 0);
        asked("18: split", true, x -> x.split(NONE) > 0);
        asked("23: pairs", 0, x -> x.pairs(NONE));
        asked("24: share", true, x -> x.share(0, 99) > 0);
        asked("26: odds", true, x -> x.odds(0, 5, 1) > 0);
        asked("35: a seed and back", true, x -> {
            int was = x.seed(MOST);
            return x.seed(was) == MOST;
        });
    }

    /** A TAPE that is not that is used up; fault() is of texts alone. */
    private void tapes() {
        byte[][] notTaken = {{16}, {0, (byte) 255}, new byte[41]};
        for (byte[] tape : notTaken) {
            refusedTape("19: takes", tape, x -> x.takes(false));
            refusedTape("19: wants", tape, x -> x.takes(true));
        }
        byte[][] noRows = {{0}, {100, 0}, {(byte) 255, 0}, {0, 2}, {0, (byte) 255}, new byte[41], new byte[42]};
        for (byte[] tape : noRows) {
            refusedTape("20: period", tape, x -> x.period());
            refusedTape("21: likely", tape, x -> x.likely());
            refusedTape("22: probe", tape, x -> x.probe());
        }
    }

    private void refusedTape(String name, byte[] tape, On on) {
        refused(name + " of " + tape.length, ARGUMENT, 0, FAULT, x -> {
            x.end(0);
            Check.tape(x, tape);
            return on.call(x);
        });
    }

    /** A text that is wrong is used up, and fault() tells where. */
    private void texts() {
        refusedText("line delay 5", 11, false);
        refusedText("line;line;line;line", 10, false);
        refusedText("units 0 of 5 5;tick 7;units 2 of 1", 28, false);
        refusedText("tick 7;", 7, false);
        refusedText("spoil 1;mend", 12, true);
        refusedText("spoil 1;line", 8, true);
    }

    private void refusedText(String text, int fault, boolean law) {
        refused("4, 5: '" + text + "'", ARGUMENT, 0, fault, x -> {
            x.end(0);
            return law ? Check.law(x, text) : Check.lines(x, text);
        });
    }

    /** A right text is refused if there are 12: it was read, and nothing stays. */
    private void thirteenthText() {
        CyclicLines x = Check.of("line delay 4 in;units 0 of 1 2");
        for (int i = 2; i <= 11; i++) {
            check.same("4: text " + i, i, Check.lines(x, ""));
        }
        check.same("4: the 12th", 12, Check.lines(x, "line"));
        x.image();
        x.ticks(3);
        String was = Look.at(x);
        check.due("4: a 13th", UNSUPPORTED, () -> Check.lines(x, "line;tick 9"));
        check.same("4: nothing of it", was, Look.at(x));
        check.same("6: it is right", NONE, x.fault());
        check.same("4: the tape is used up", 20, x.feed(0, 0, 0, 0, 0));
        x.end(0);
        check.due("4: of two exceptions the first", ARGUMENT, () -> Check.lines(x, "line;tick"));
        check.same("6: it is wrong", 9, x.fault());
        check.same("4: nothing of that", was, Look.at(x));
        check.due("4: an empty one is a text", UNSUPPORTED, () -> Check.lines(x, ""));
        check.same("4: a law is none of these", 1, Check.law(x, "mend 1"));
    }

    private void noneToUndo() {
        CyclicLines x = Check.of("line in;units 0 of 3");
        Check.tape(x, "tick 5");
        String was = Look.at(x);
        check.same("36: there was none", false, x.undo());
        check.same("36: nothing happens", was, Look.at(x));
        check.same("38: none was kept", false, x.back());
        check.same("38: nothing happens", was, Look.at(x));
        check.same("38: the tape stays", 1 + 1, x.lines());
        check.same("38: and is used up", 20, x.feed(0, 0, 0, 0, 0));
    }
}
