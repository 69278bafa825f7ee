/** The edges of what may be asked: ==== 3. of the document. */
public final class AnswerEdgeTest {
    private static final Class<?> ARGUMENT = IllegalArgumentException.class;
    private static final int NONE = CyclicLines.NONE;
    private static final int LEAST = Integer.MIN_VALUE;
    private static final int MOST = Integer.MAX_VALUE;

    private final Check check = new Check();

    public static void main(String[] args) {
        AnswerEdgeTest t = new AnswerEdgeTest();
        t.rows();
        t.loadsAndParts();
        t.comes();
        t.clearNowAndNever();
        t.clearBySixty();
        t.windowOfThirty();
        t.windowAsItIs();
        t.splitOfNone();
        t.splitOfEight();
        t.splitFirstWay();
        t.splitLines();
        t.takes();
        t.takesGoRound();
        t.rowsTold();
        t.periodOfOneWrong();
        t.periodOfTwelve();
        t.likelyOfLike();
        t.probes();
        t.pairsOfFew();
        t.pairsFirstWay();
        t.shares();
        t.restsOf();
        t.odds();
        t.mosts();
        t.statesAndTwins();
        t.aheadOfSureNoise();
        t.aheadAndTrials();
        t.trialOfDraws();
        t.spanOfSixSeeds();
        t.counts();
        t.check.end("AnswerEdgeTest");
    }

    private void same(String what, Object due, Object got) {
        check.same(what, due, got);
    }

    private static CyclicLines of(String line, int units, int length) {
        CyclicLines x = Check.of(line);
        for (int i = 0; i < units; i++) {
            x.tell(0, length);
        }
        return x;
    }

    // ---- rows, loads ----

    private void rows() {
        CyclicLines x = Check.of("line delay 4 in;units 0 of 7 8 9");
        x.ticks(2);
        int[][] due = {{0, 7, 0}, {1, 8, 1}, {2, 9, NONE}};
        for (int k = 0; k < 3; k++) {
            for (int what = 0; what < 3; what++) {
                same("8: unit " + k + " what " + what, due[k][what], x.unit(0, k, what));
            }
        }
        for (int k : new int[] {-1, 3, 4, LEAST, MOST, MOST - 1}) {
            for (int what = 0; what < 3; what++) {
                same("8: no unit " + k + " what " + what, NONE, x.unit(0, k, what));
            }
            same("10: no place " + k, k == 3 ? 0 : NONE, x.reply(0, k));
        }
        for (int k : new int[] {-1, 4, LEAST, MOST}) {
            for (int what = 0; what < 4; what++) {
                same("9: no place " + k + " what " + what, NONE, x.air(0, k, what));
            }
        }
        for (int k = 0; k < 2; k++) {
            int[] nothing = {0, NONE, NONE, 0};
            for (int what = 0; what < 4; what++) {
                same("9: nothing in " + k + " what " + what, nothing[what], x.air(0, k, what));
            }
        }
        same("8: of an empty row", NONE, Check.of("line").unit(0, 0, 0));
        CyclicLines y = Check.of("line noise 100 in;line noise 100 proving;units 0 of 5");
        y.ticks(1);
        int[][] air = {{2, 0, 0, 1}, {1, NONE, NONE, 1}};
        for (int line = 0; line < 2; line++) {
            for (int what = 0; what < 4; what++) {
                same("9: bad on " + line + " what " + what, air[line][what], y.air(line, 1, what));
            }
        }
    }

    private void loadsAndParts() {
        CyclicLines x = Check.of("line in;line;line;line");
        same("7: no load", 0, x.line(0, 17));
        same("7: no part", 0, x.line(0, 20));
        x.tell(1, 1);
        same("7: all of 1", 100, x.line(1, 20));
        x.undo();
        x.tell(1, 9);
        same("7: all", 100, x.line(1, 20));
        same("7: none of it", 0, x.line(0, 20));
        x.tell(0, 9);
        same("7: half", 50, x.line(0, 20));
        x.tell(2, 9);
        for (int line = 0; line < 3; line++) {
            same("7: a third rounded down " + line, 33, x.line(line, 20));
        }
        x.ticks(1);
        x.tell(0, 9);
        same("7: kept and waiting", 18, x.line(0, 17));
        same("7: half again", 50, x.line(0, 20));
        x.tell(0, 8);
        x.tell(3, 1);
        // 26 of 45: 57.7; 1 of 45: 2.2.
        same("7: 57.7", 57, x.line(0, 20));
        same("7: 2.2", 2, x.line(3, 20));
        CyclicLines y = of("line;line", 24, 9);
        for (int i = 0; i < 3; i++) {
            y.tell(1, 1);
        }
        // 3 of 219: 1.4; 216 of 219: 98.6.
        same("7: 1.4", 1, y.line(1, 20));
        same("7: 98.6", 98, y.line(0, 20));
        y.undo();
        y.undo();
        // 1 of 217: 0.5.
        same("7: 0.5", 0, y.line(1, 20));
    }

    private void comes() {
        same("7: a filler", NONE, Check.of("line in").line(0, 18));
        same("7: one waits", 0, Check.of("line in;units 0 of 1").line(0, 18));
        same("7: out", NONE, Check.of("line;units 0 of 1").line(0, 18));
        same("7: proving", NONE, Check.of("line proving;units 0 of 1").line(0, 18));
        CyclicLines x = Check.of("line delay 1 in;units 0 of 1");
        x.ticks(1);
        same("7: the one kept", 0, x.line(0, 18));
        x.ticks(1);
        // It leaves as the next TICK begins; if nothing came back it would be sent again.
        same("7: if nothing came back", 0, x.line(0, 18));
        x.ticks(1);
        same("7: a filler again", NONE, x.line(0, 18));
        CyclicLines y = Check.of("line delay 4 units 2 in;units 0 of 1 2 3");
        y.ticks(3);
        same("7: of a forced round", 1, y.line(0, 18));
        y.tune(0, 1, 8);
        same("7: a round goes to its end", 1, y.line(0, 18));
        y.ticks(1);
        same("7: behind the round", 2, y.line(0, 18));
        y.shut(0);
        same("7: shut", NONE, y.line(0, 18));
    }

    // ---- clear, window ----

    private void clearNowAndNever() {
        same("17: no line", 0, new CyclicLines().clear());
        same("17: no unit", 0, Check.of("line;line proving;line in").clear());
        same("17: one waits where none is sent", NONE, Check.of("line;units 0 of 1").clear());
        CyclicLines x = Check.of("line delay 1 in;units 0 of 1");
        same("17: sent, taken, told", 3, x.clear());
        x.ticks(1);
        same("17: two to go", 2, x.clear());
        x.ticks(1);
        same("17: one to go", 1, x.clear());
        same("7: it is kept", 1, x.line(0, 7));
        x.ticks(1);
        same("17: none", 0, x.clear());
    }

    /** With a DELAY of 2 and one UNIT at most each one takes four TICKS, and the last is told one later. */
    private void clearBySixty() {
        for (int bad = 0; bad <= 5; bad++) {
            CyclicLines x = of("line delay 2 units 1 limit 20 in", 14, 1);
            Check.law(x, bad == 0 ? "" : "spoil 99 if tick<" + bad + ";spoil 1 if tick<" + bad);
            int due = 57 + bad;
            same("17: " + due, due <= 60 ? due : NONE, x.clear());
            same("30: a tick ahead of " + due, 1, x.ahead(0, Math.min(60, due - 1)));
            if (due <= 60) {
                same("30: all taken by " + due, 14, x.ahead(NONE, due));
                same("30: none by " + due, 0, x.ahead(0, due));
            }
        }
    }

    /** A LINE with so many in its QUEUE. */
    private static CyclicLines withQueue(String line, int units) {
        CyclicLines x = Check.of(line + ";line");
        for (int n = units; n > 0; n -= 24) {
            x.start(1);
            for (int k = 0; k < n && k < 24; k++) {
                x.tell(1, 1);
            }
            x.shut(1);
        }
        return x;
    }

    /** With a DELAY of 1 one UNIT at most is taken each other TICK, 30 in 60; two at most, one each TICK. */
    private void windowOfThirty() {
        for (int units = 29; units <= 32; units++) {
            CyclicLines x = withQueue("line delay 1 units 8 octets 60 in", units);
            same("7: window of " + units, units <= 30 ? 1 : 2, x.line(0, 19));
            x.tune(0, 1, 1);
            same("30: by one of " + units, Math.min(30, units), x.ahead(NONE, 60));
            x.tune(0, 1, 2);
            same("30: by two of " + units, units, x.ahead(NONE, 60));
        }
    }

    private void windowAsItIs() {
        // IN N TICKS there is no DRAW: 99 is good, and 100 is bad.
        same("7: window by 99", 2, withQueue("line noise 99 delay 1 limit 20 in", 31).line(0, 19));
        same("7: window by 100", 1, withQueue("line noise 100 delay 1 limit 20 in", 31).line(0, 19));
        same("7: window of one that is out", 1, Check.of("line;units 0 of 1 2").line(0, 19));
        same("7: window without units", 1, Check.of("line units 8 in").line(0, 19));
        // OCTETS MOST keeps two of 9 from being in BACK together: no window is better than one.
        CyclicLines x = of("line delay 4 octets 9 in", 24, 9);
        same("7: window by octets", 1, x.line(0, 19));
        CyclicLines y = withQueue("line delay 4 units 1 octets 60 in", 72);
        same("7: window of eight", 8, y.line(0, 19));
        y.tune(0, 2, 9);
        same("7: octets of nine", 8, y.line(0, 19));
        same("7: units most stay", 1, y.line(0, 3));
    }

    // ---- split ----

    private void splits(String lines, int most, int... on) {
        CyclicLines x = Check.of(lines);
        same("18: '" + lines + "'", most, x.split(NONE));
        for (int k = 0; k < on.length; k++) {
            same("18: '" + lines + "' " + k, on[k], x.split(k));
        }
        for (int k : new int[] {on.length, on.length + 1, 8, -2, LEAST, MOST}) {
            same("18: '" + lines + "' none " + k, NONE, x.split(k));
        }
        same("18: '" + lines + "' once more", most, x.split(NONE));
    }

    private void splitOfNone() {
        splits("", 0);
        splits("line", 0);
        splits("line in", 0);
        splits("line;units 0 of 5", NONE, NONE);
        splits("line proving;line;units 0 of 5;units 1 of 5", NONE, NONE, NONE);
        // What is kept is in no QUEUE.
        CyclicLines x = Check.of("line delay 4 in;units 0 of 5 6");
        x.ticks(1);
        same("18: one waits", 6, x.split(NONE));
        x.ticks(1);
        same("18: none waits", 0, x.split(NONE));
        same("18: on none", NONE, x.split(0));
    }

    /** The first 8, LINE by LINE. */
    private void splitOfEight() {
        splits("line in;units 0 of 1 1 1 1 1 1 1", 7, 0, 0, 0, 0, 0, 0, 0);
        splits("line in;units 0 of 1 1 1 1 1 1 1 1", 8, 0, 0, 0, 0, 0, 0, 0, 0);
        splits("line in;units 0 of 1 1 1 1 1 1 1 1 9", 8, 0, 0, 0, 0, 0, 0, 0, 0);
        splits("line;line in;units 1 of 9 9;units 0 of 1 1 1 1 1 1 1", 16, 1, 1, 1, 1, 1, 1, 1, 1);
        splits("line;line in;units 1 of 9 9;units 0 of 1 1 1 1 1 1 1 2", 9, 1, 1, 1, 1, 1, 1, 1, 1);
        splits("line;line;line;line in;units 3 of 9 1;units 0 of 1;units 1 of 2;units 2 of 3 3 3", 22, 3, 3, 3, 3, 3, 3, 3);
        splits("line in;line in;line in;line in;units 0 of 9 9 9 9 9 9 9 9 9", 18, 0, 0, 1, 1, 2, 2, 3, 3);
    }

    /** The first such way: UNIT by UNIT, the LINES by numbers. */
    private void splitFirstWay() {
        splits("line in;line in;units 0 of 1", 1, 0);
        splits("line in;line in;units 0 of 1 1", 1, 0, 1);
        splits("line in;line in;units 0 of 1 1 1", 2, 0, 0, 1);
        splits("line in;line in;units 0 of 2 1 1", 2, 0, 1, 1);
        splits("line in;line in;units 0 of 1 1 2", 2, 0, 0, 1);
        splits("line in;line in;units 0 of 1 1 3", 3, 0, 0, 1);
        splits("line in;line in;units 0 of 1 3 1", 3, 0, 1, 0);
        splits("line in;line in;units 0 of 3 1 1", 3, 0, 1, 1);
        splits("line in;line in;units 0 of 3 3 1", 4, 0, 1, 0);
        splits("line in;line in;units 0 of 9 1 1 1", 9, 0, 1, 1, 1);
        splits("line in;line in;line in;units 0 of 3 3 1", 3, 0, 1, 2);
        splits("line in;line in;line in;units 0 of 9 1 1 9", 9, 0, 1, 1, 2);
        splits("line in;line in;line in;units 0 of 1 1 9 9", 9, 0, 0, 1, 2);
    }

    private void splitLines() {
        splits("line;line;line;line in;units 0 of 4 5", 9, 3, 3);
        splits("line;line in;line proving;line in;units 0 of 4 5", 5, 1, 3);
        splits("line proving;line in;units 0 of 4", 4, 1);
        splits("line in;line in;line in;line in;units 3 of 4", 4, 0);
    }

    // ---- told numbers ----

    private void takes(int due, int wants, int... numbers) {
        byte[] bytes = new byte[numbers.length];
        for (int i = 0; i < bytes.length; i++) {
            bytes[i] = (byte) numbers[i];
        }
        CyclicLines x = new CyclicLines();
        Check.tape(x, bytes);
        check.due("19: takes of " + numbers.length, due, () -> x.takes(false));
        same("19: used up", 20, x.feed(0, 0, 0, 0, 0));
        x.end(0);
        Check.tape(x, bytes);
        check.due("19: wants of " + numbers.length, wants, () -> x.takes(true));
        same("19: used up, too", 20, x.feed(0, 0, 0, 0, 0));
    }

    private void takes() {
        takes(0, 0);
        takes(1, 1, 0);
        takes(0, 0, 1);
        takes(0, 0, 15);
        takes(1, 1, 15, 0);
        takes(1, 1, 0, 0, 0);
        takes(2, 2, 0, 2, 1);
        takes(3, 3, 0, 2, 1, 2);
        takes(1, 1, 0, 15, 14);
        for (int number : new int[] {16, 17, 127, 128, 255}) {
            CyclicLines x = new CyclicLines();
            Check.tape(x, new byte[] {0, (byte) number});
            check.due("19: no number " + number, ARGUMENT, () -> x.takes(false));
        }
    }

    private static int[] upTo(int n) {
        int[] numbers = new int[n];
        for (int i = 0; i < n; i++) {
            numbers[i] = i % 16;
        }
        return numbers;
    }

    private void takesGoRound() {
        for (int n : new int[] {14, 15, 16, 17, 31, 32, 33, 39, 40}) {
            takes(n, n % 16, upTo(n));
        }
        int[] again = upTo(18);
        again[16] = 15;
        takes(16, 0, again);
        CyclicLines x = new CyclicLines();
        Check.tape(x, new byte[41]);
        check.due("19: 41", ARGUMENT, () -> x.takes(true));
        Check.tape(x, new byte[400]);
        check.due("19: 400", ARGUMENT, () -> x.takes(false));
        same("19: used up", 20, x.feed(0, 0, 0, 0, 0));
    }

    // ---- a fault that comes round ----

    private static byte[] bytes(int... numbers) {
        byte[] bytes = new byte[numbers.length];
        for (int i = 0; i < bytes.length; i++) {
            bytes[i] = (byte) numbers[i];
        }
        return bytes;
    }

    private void seen(String name, int period, int likely, int probe, int... rows) {
        CyclicLines x = new CyclicLines();
        Check.tape(x, bytes(rows));
        check.due("20: " + name, period, x::period);
        same("20: used up by " + name, 20, x.feed(0, 0, 0, 0, 0));
        x.end(0);
        Check.tape(x, bytes(rows));
        check.due("21: " + name, likely, x::likely);
        same("21: used up by " + name, 20, x.feed(0, 0, 0, 0, 0));
        x.end(0);
        Check.tape(x, bytes(rows));
        check.due("22: " + name, probe, x::probe);
        same("22: used up by " + name, 20, x.feed(0, 0, 0, 0, 0));
    }

    private void noRows(int... rows) {
        CyclicLines x = new CyclicLines();
        Check.tape(x, bytes(rows));
        check.due("20: no rows", ARGUMENT, x::period);
        Check.tape(x, bytes(rows));
        check.due("21: no rows", ARGUMENT, x::likely);
        Check.tape(x, bytes(rows));
        check.due("22: no rows", ARGUMENT, x::probe);
        same("22: used up", 20, x.feed(0, 0, 0, 0, 0));
    }

    private void rowsTold() {
        seen("nothing", 78, 0, 0);
        seen("tick 0 good", 78, 13, 0, 0, 0);
        // 99 is 0 modulo 3, 9 and 11, and 1 modulo 2: the first PHASE that does not hit it is 0 of 2.
        seen("tick 99 good", 78, 12, 0, 99, 0);
        seen("tick 99 bad", 78, 0, 0, 99, 1);
        noRows(100, 0);
        noRows(100, 1);
        noRows(255, 0);
        noRows(0, 2);
        noRows(0, 255);
        noRows(0);
        noRows(0, 0, 0);
        noRows(new int[39]);
        noRows(new int[41]);
        noRows(new int[42]);
        noRows(5, 0, 100, 0);
        noRows(5, 0, 99, 2);
        int[] nineteen = new int[38];
        int[] twenty = new int[40];
        for (int i = 0; i < 40; i += 2) {
            twenty[i] = i / 2;
            twenty[i + 1] = 0;
        }
        System.arraycopy(twenty, 0, nineteen, 0, 38);
        // Good at 0 to 18, or to 19: those fit that hit one of these TICKS at most.
        int fit19 = 0;
        int fit20 = 0;
        for (int p = 1; p <= 12; p++) {
            for (int phase = 0; phase < p; phase++) {
                fit19 += hits(p, phase, 19) <= 1 ? 1 : 0;
                fit20 += hits(p, phase, 20) <= 1 ? 1 : 0;
            }
        }
        same("20: 1 of 10, 3 of 11, 5 of 12", 9, fit19);
        same("20: 2 of 11, 4 of 12", 6, fit20);
        // All have one wrong row; the first is the PHASE 9 of 10, and of 11 with 20 rows.
        seen("nineteen rows", 9, 12 * 9 + 9, 9, nineteen);
        seen("twenty rows", 6, 12 * 10 + 9, 9, twenty);
    }

    private static int hits(int period, int phase, int ticks) {
        int hits = 0;
        for (int tick = phase; tick < ticks; tick += period) {
            hits++;
        }
        return hits;
    }

    /** One row may be wrong, two may not. */
    private void periodOfOneWrong() {
        // Each PERIOD has one PHASE that hits a TICK: 12 of 78.
        seen("good at 5", 78, 12, 0, 5, 0);
        // At 4 each PERIOD of these has a PHASE that hits it, as none but 1 parts it from 5.
        seen("good at 5 twice", 66, 12, 4, 5, 0, 5, 0);
        seen("bad at 5", 78, 0, 0, 5, 1);
        // 17 is 12 behind 5: six of the twelve PERIODS hit it.
        seen("bad at 5 twice", 12, 0, 17, 5, 1, 5, 1);
        seen("both at 5", 78, 0, 0, 5, 1, 5, 0);
        seen("both at 5 twice", 0, NONE, NONE, 5, 1, 5, 0, 5, 1, 5, 0);
        seen("bad at 5 thrice, good once", 12, 0, 17, 5, 1, 5, 1, 5, 1, 5, 0);
        seen("bad at 5 thrice, good twice", 0, NONE, NONE, 5, 1, 5, 1, 5, 1, 5, 0, 5, 0);
    }

    /** A PERIOD is 12 at most, its PHASE one less at most. */
    private void periodOfTwelve() {
        // Bad each 12 from 11 on; what is good leaves no shorter one, though one row were wrong.
        int[] rows = {11, 1, 23, 1, 35, 1, 47, 1, 5, 0, 17, 0, 3, 0, 7, 0};
        seen("the last phase of 12", 1, 12 * 11 + 11, NONE, rows);
        int[] thirteen = {0, 1, 13, 1, 26, 1, 39, 1, 1, 0, 2, 0, 3, 0, 4, 0};
        seen("no period of 13", 0, NONE, NONE, thirteen);
        int[] each = {0, 1, 1, 1, 2, 1, 3, 1, 4, 1};
        seen("a period of 1", 1, 0, NONE, each);
        int[] butOne = {0, 1, 1, 1, 2, 1, 3, 1, 4, 1, 1, 0};
        seen("a period of 1 with one wrong", 1, 0, NONE, butOne);
        int[] butTwo = {0, 1, 1, 1, 2, 1, 3, 1, 4, 1, 1, 0, 2, 0};
        seen("a period of 1 with two wrong", 0, NONE, NONE, butTwo);
    }

    /** Of the fewest wrong rows the first, by the PERIOD, then by the PHASE. */
    private void likelyOfLike() {
        seen("good at 0 and 1", 78 - 1, 12 * 2 + 2, 0, 0, 0, 1, 0);
        seen("good at 0, 1 and 2", 78 - 1 - 1, 12 * 3 + 3, 1, 0, 0, 1, 0, 2, 0);
        seen("bad at 11", 78, 0, 0, 11, 1);
        // None has no wrong row: the first of those with one, which are 2 of 7, 4 of 8, 6 of 9 and so on.
        seen("all good of 0 to 11", 2 + 4 + 6 + 8 + 10 + 12, 12 * 6 + 5, 5,
                0, 0, 1, 0, 2, 0, 3, 0, 4, 0, 5, 0, 6, 0, 7, 0, 8, 0, 9, 0, 10, 0, 11, 0);
    }

    private void probes() {
        // Bad at 3, 7, 11 of 0 to 11: 4 and 3, and 8 and 3 with one wrong; 7 parts the two.
        int[] two = {0, 0, 1, 0, 2, 0, 3, 1, 4, 0, 5, 0, 6, 0, 7, 1, 8, 0, 9, 0, 10, 0, 11, 1};
        seen("two fit", 2, 12 * 3 + 3, 7, two);
        // One more row leaves one: nothing is parted.
        int[] one = new int[26];
        System.arraycopy(two, 0, one, 0, 24);
        one[24] = 15;
        one[25] = 1;
        seen("one fits", 1, 12 * 3 + 3, NONE, one);
        // Two more leave none.
        int[] none = new int[28];
        System.arraycopy(two, 0, none, 0, 24);
        none[24] = 15;
        none[25] = 0;
        none[26] = 19;
        none[27] = 0;
        seen("none fits", 0, NONE, NONE, none);
    }

    // ---- pairs, shares ----

    private void pairs(String lines, int most, int... with) {
        CyclicLines x = Check.of(lines);
        same("23: '" + lines + "'", most, x.pairs(NONE));
        for (int i = 0; i < with.length; i++) {
            same("23: '" + lines + "' " + i, with[i], x.pairs(i));
        }
        check.due("23: no line of '" + lines + "'", IndexOutOfBoundsException.class, () -> x.pairs(with.length));
    }

    private void pairsOfFew() {
        pairs("", 0);
        pairs("line in", 0, NONE);
        pairs("line in;line", 0, NONE, NONE);
        pairs("line in;line proving", 0, NONE, NONE);
        pairs("line in;line in", 100, 1, 0);
        pairs("line noise 99 in;line noise 99 in", 1, 1, 0);
        pairs("line noise 100 in;line noise 100 in", 0, NONE, NONE);
        pairs("line;line in;line;line in", 100, NONE, 3, NONE, 1);
        pairs("line in;line in;line in;line in", 200, 1, 0, 3, 2);
        pairs("line noise 100 in;line noise 100 in;line noise 100 in;line noise 100 in", 0, NONE, NONE, NONE, NONE);
    }

    /** The first such way: LINE by LINE, none being the least, then the others. */
    private void pairsFirstWay() {
        pairs("line in;line in;line in", 100, NONE, 2, 1);
        pairs("line in;line in;line in;line", 100, NONE, 2, 1, NONE);
        pairs("line noise 7 in;line noise 7 in;line noise 7 in;line noise 7 in", 186, 1, 0, 3, 2);
        pairs("line noise 100 in;line noise 100 in;line in;line in", 200, 2, 3, 0, 1);
        pairs("line;line noise 50 in;line noise 50 in;line noise 50 in", 50, NONE, NONE, 3, 2);
    }

    private void shares() {
        CyclicLines x = Check.of("line octets 9;line octets 10 in");
        // 9 and 10; 9 and 5; 4 and 5; 4 and 3; 3 and 3, rounded down; 2 and 3; 2 and 2.
        int[] first = {0, 0, 1, 1, 2, 3, 3, 4};
        for (int n = 0; n < first.length; n++) {
            same("24: of " + n, first[n], x.share(0, n));
            same("24: the others of " + n, n - first[n], x.share(1, n));
        }
        same("24: 99", 99, x.share(0, 99) + x.share(1, 99));
        same("24: 98", 98, x.share(0, 98) + x.share(1, 98));
        CyclicLines one = Check.of("line octets 60");
        same("24: 0 of one", 0, one.share(0, 0));
        same("24: 60 of one", 60, one.share(0, 60));
        same("24: 61 of one", 61, one.share(0, 61));
        same("24: 99 of one", 99, one.share(0, 99));
        // Once each has as many as its OCTETS MOST all are 0: the least LINE has what is left.
        CyclicLines four = Check.of("line octets 9;line octets 9;line octets 9;line octets 9");
        same("24: 36", 9, four.share(0, 36));
        same("24: the fourth of 36", 9, four.share(3, 36));
        same("24: the fourth of 35", 8, four.share(3, 35));
        same("24: 37", 10, four.share(0, 37));
        same("24: 99 of four", 72, four.share(0, 99));
        same("24: 99 of the fourth", 9, four.share(3, 99));
    }

    // ---- rests, odds ----

    /** Neither has more by his other one just if he repeats unseen by no noise, and nothing waits. */
    private void restsOf() {
        CyclicLines x = Check.of("line noise 100 delay 1 limit 20 in");
        same("25: nothing", 8, x.rests(0));
        x.tell(0, 1);
        same("25: one waits", 0, x.rests(0));
        x.ticks(1);
        same("25: it is kept", 8, x.rests(0));
        x.ticks(3);
        same("7: bucket", 3, x.line(0, 12));
        same("25: bad ones came", 8, x.rests(0));
        x.tell(0, 1);
        same("25: another one waits", 0, x.rests(0));
        same("25: out", 8, Check.of("line").rests(0));
        same("25: out with one", 0, Check.of("line;units 0 of 1").rests(0));
        check.due("25: no line", IndexOutOfBoundsException.class, () -> x.rests(1));
    }

    private void odds() {
        int[] noises = {0, 1, 50, 99, 100};
        int[][] all = {{0, 0, 0, 0, 0}, {100, 1, 0, 0, 0}, {5000, 2500, 1250, 625, 312},
            {9900, 9801, 9702, 9605, 9509}, {10000, 10000, 10000, 10000, 10000}};
        int[][] any = {{0, 0, 0, 0, 0}, {100, 199, 297, 394, 490}, {5000, 7500, 8750, 9375, 9687},
            {9900, 9999, 9999, 9999, 9999}, {10000, 10000, 10000, 10000, 10000}};
        for (int i = 0; i < noises.length; i++) {
            CyclicLines x = Check.of("line noise " + noises[i]);
            for (int n = 1; n <= 5; n++) {
                String name = "26: noise " + noises[i] + " of " + n;
                same(name + " all", all[i][n - 1], x.odds(0, n, n));
                same(name + " one", any[i][n - 1], x.odds(0, n, 1));
                same(name + " none at least", 10000, x.odds(0, n, 0));
                for (int k = n + 1; k <= 5; k++) {
                    same(name + " more than all " + k, 0, x.odds(0, n, k));
                }
            }
            same("26: none of none " + i, 10000, x.odds(0, 0, 0));
            for (int k = 1; k <= 5; k++) {
                same("26: of none " + k, 0, x.odds(0, 0, k));
            }
        }
        // Half and half: of five 31, 26, 16, 6 and 1 in 32.
        CyclicLines half = Check.of("line noise 50");
        int[] due = {10000, 9687, 8125, 5000, 1875, 312};
        for (int k = 0; k <= 5; k++) {
            same("26: half, " + k, due[k], half.odds(0, 5, k));
        }
        check.due("26: N 6", ARGUMENT, () -> half.odds(0, 6, 5));
        check.due("26: K 6", ARGUMENT, () -> half.odds(0, 5, 6));
        check.due("26: N -1", ARGUMENT, () -> half.odds(0, -1, 0));
        check.due("26: K -1", ARGUMENT, () -> half.odds(0, 0, -1));
        Check.law(half, "spoil 99");
        same("26: 100 at most", 10000, half.odds(0, 5, 5));
        Check.law(half, "mend 99");
        same("26: 0 at least", 0, half.odds(0, 5, 1));
    }

    // ---- the busiest, the states ----

    private void mosts() {
        for (int what = 0; what < 3; what++) {
            same("27: no line " + what, NONE, new CyclicLines().most(what));
            same("27: one of none " + what, 0, Check.of("line").most(what));
            same("27: the least of like ones " + what, 0, Check.of("line;line;line;line").most(what));
        }
        same("27: the last is the busiest", 3, Check.of("line;line;line;line;units 3 of 1").most(0));
        same("27: like ones", 1, Check.of("line;line;line;line;units 3 of 9;units 1 of 4 5").most(0));
        same("27: one more", 3, Check.of("line;line;line;line;units 3 of 9 1;units 1 of 4 5").most(0));
        same("27: the last is the loudest", 3, Check.of("line;line noise 99;line;line noise 100").most(1));
        same("27: the loudest of like ones", 1, Check.of("line;line noise 100;line;line noise 100").most(1));
        CyclicLines x = Check.of("line delay 1 in;line noise 100 delay 1 in;line noise 100 delay 1 in");
        x.ticks(2);
        same("27: the fullest of like ones", 1, x.most(2));
        x.tune(1, 0, 0);
        x.ticks(2);
        same("27: the fullest", 2, x.most(2));
    }

    private void statesAndTwins() {
        same("28: of no line", 0, new CyclicLines().byState(0));
        CyclicLines x = Check.of("line;line;line;line");
        same("28: all", 15, x.byState(0));
        same("28: none", 0, x.byState(1));
        same("28: none in", 0, x.byState(2));
        x.start(3);
        same("28: the last", 8, x.byState(1));
        same("28: the others", 7, x.byState(0));
        same("29: of no line", 0, new CyclicLines().twins());
        same("29: of one", 0, Check.of("line").twins());
        same("29: of two", 1, Check.of("line;line in").twins());
        same("29: of two by delay", 0, Check.of("line;line delay 1").twins());
        same("29: of two by noise", 0, Check.of("line;line noise 1").twins());
        same("29: of three", 3, Check.of("line;line;line").twins());
        same("29: of four", 6, Check.of("line;line;line;line").twins());
        same("29: by what is not asked", 6, Check.of("line units 1;line octets 9;line limit 1;line proving").twins());
    }

    // ---- what comes ----

    /** Just that is bad whose CHANCE is 100, and there are no DRAWS; what is bad in the AIR stays so. */
    private void aheadOfSureNoise() {
        CyclicLines x = Check.of("line noise 100 delay 1 limit 20 in;units 0 of 5");
        same("30: sure", 0, x.ahead(NONE, 20));
        Check.law(x, "mend 1");
        same("30: 99 is not sure", 1, x.ahead(NONE, 2));
        Check.law(x, "mend 1;spoil 1");
        same("30: 100 again", 0, x.ahead(NONE, 20));
        Check.law(x, "spoil 99");
        same("30: above 100", 0, x.ahead(NONE, 20));
        x.ticks(1);
        x.tune(0, 0, 0);
        Check.law(x, "");
        same("30: bad in the air", 0, x.ahead(NONE, 1));
        same("30: then good", 1, x.ahead(NONE, 2));
    }

    private void aheadAndTrials() {
        CyclicLines x = Check.of("line delay 1 in;line proving;units 0 of 5 6");
        same("30: in 0", 0, x.ahead(NONE, 0));
        same("30: its row in 0", 2, x.ahead(0, 0));
        same("31: in 0", 0, x.trial(0, false));
        same("31: in by 0", 1, x.trial(0, true));
        same("31: in by 7", 1, x.trial(7, true));
        same("31: in by 8", 3, x.trial(8, true));
        same("31: in by 60", 3, x.trial(60, true));
        same("32: in 0", 0, x.span(0, false));
        same("30: in 1", 0, x.ahead(NONE, 1));
        same("30: in 2", 1, x.ahead(NONE, 2));
        same("30: in 3", 2, x.ahead(NONE, 3));
        same("30: row in 2", 2, x.ahead(0, 2));
        same("30: row in 3", 1, x.ahead(0, 3));
        same("30: row in 4", 0, x.ahead(0, 4));
        same("30: in 60", 2, x.ahead(NONE, 60));
        same("31: in 60", 2, x.trial(60, false));
        same("32: in 60", 2, x.span(60, false));
        x.ticks(2);
        same("30: TAKEN counts what was", 1, x.ahead(NONE, 0));
        same("31: TAKEN counts what was, too", 1, x.trial(0, false));
        same("32: TAKEN counts what was, as well", 1, x.span(0, true));
        CyclicLines none = new CyclicLines();
        same("30: of no line", 0, none.ahead(NONE, 60));
        same("31: of no line", 0, none.trial(60, false) + none.trial(60, true));
        same("32: of no line", 0, none.span(60, false) + none.span(60, true));
    }

    /** A trial draws as TICKS do, from SEED on, and SEED stays. */
    private void trialOfDraws() {
        int differ = 0;
        for (int seed = -3; seed <= 3; seed++) {
            CyclicLines x = of("line noise 60 limit 3 in;line noise 40 proving", 9, 2);
            x.seed(seed);
            int taken = x.trial(12, false);
            int in = x.trial(12, true);
            same("31: once more " + seed, taken, x.trial(12, false));
            same("31: the seed stays " + seed, seed, x.seed(seed));
            x.ticks(12);
            same("31: taken by seed " + seed, x.count(4), taken);
            same("31: in by seed " + seed, x.byState(2), in);
            differ |= 1 << taken;
        }
        same("31: they differ", true, Integer.bitCount(differ) > 1);
    }

    /** SEED 1 to 6, no other: looked for are cases in which 1, 6, 0 or 7 would be the one that counts. */
    private void spanOfSixSeeds() {
        int told = 0;
        for (int n = 4; n <= 60; n++) {
            for (int noise = 30; noise <= 80; noise += 5) {
                String line = "line noise " + noise + " limit 20 in";
                int[] taken = new int[8];
                for (int seed = 0; seed <= 7; seed++) {
                    CyclicLines y = of(line, 12, 1);
                    y.seed(seed);
                    taken[seed] = y.trial(n, false);
                }
                int least = taken[1];
                int most = taken[1];
                int inner = 0;
                for (int seed = 2; seed <= 6; seed++) {
                    least = Math.min(least, taken[seed]);
                    most = Math.max(most, taken[seed]);
                    inner = seed == 5 ? most : inner;
                }
                CyclicLines x = of(line, 12, 1);
                x.seed(1000);
                same("32: the least in " + n, least, x.span(n, false));
                same("32: the greatest in " + n, most, x.span(n, true));
                told |= taken[6] > inner ? 1 : 0;
                told |= taken[7] > most ? 2 : 0;
                told |= taken[0] > most ? 4 : 0;
                told |= taken[7] < least ? 8 : 0;
                told |= taken[0] < least ? 16 : 0;
                told |= taken[1] == most && taken[2] < most ? 32 : 0;
            }
        }
        same("32: 6, and neither 0 nor 7, made a difference", 63, told);
    }

    private void counts() {
        CyclicLines x = new CyclicLines();
        int[] atFirst = {0, 0, NONE, 0, 0, 0, 0, 0, 0, 0, 0};
        for (int what = 0; what <= 10; what++) {
            same("39: at first " + what, atFirst[what], x.count(what));
        }
        for (int what : new int[] {-1, 11, 12, LEAST, MOST}) {
            same("39: another what " + what, NONE, x.count(what));
        }
        Check.law(x, "");
        same("39: a law without a line", 0, x.count(2));
        Check.law(x, "mend 1" + ";mend 1".repeat(11));
        same("39: twelve", 12, x.count(2));
        Check.lines(x, "line delay 4 in;line;units 0 of 1 2;units 1 of 3");
        x.ticks(1);
        same("39: in queues", 2, x.count(6));
        same("39: in backs", 1, x.count(7));
        same("39: told", 3, x.count(8));
        x.ticks(8);
        same("39: left in queues", 1, x.count(6));
        same("39: left in backs", 1, x.count(7));
        same("39: told all the same", 3, x.count(8));
        same("39: taken", 2, x.count(4));
        same("39: worth", 3, x.count(5));
        same("39: rows", 2, x.count(9));
    }
}
