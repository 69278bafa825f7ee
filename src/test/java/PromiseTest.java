import java.util.NoSuchElementException;

/** Each promise of the document: ordinary inputs, the edges that it names, wrong inputs. */
public final class PromiseTest {
    private static final Class<?> INDEX = IndexOutOfBoundsException.class;
    private static final Class<?> NONESUCH = NoSuchElementException.class;
    private static final Class<?> ARGUMENT = IllegalArgumentException.class;
    private static final Class<?> STATE = IllegalStateException.class;
    private static final Class<?> UNSUPPORTED = UnsupportedOperationException.class;
    private static final int NONE = CyclicLines.NONE;

    private final Check check = new Check();

    public static void main(String[] args) {
        PromiseTest t = new PromiseTest();
        t.newObject();
        t.feedAndEnd();
        t.linesRight();
        t.linesWrong();
        t.linesTwelve();
        t.linesAnew();
        t.lawLong();
        t.lawRight();
        t.lawWrong();
        t.faults();
        t.lineWhats();
        t.unitsTold();
        t.airAndReply();
        t.ticksCalls();
        t.ticksForced();
        t.ticksOctets();
        t.ticksIdle();
        t.ticksNumbers();
        t.ticksReturn();
        t.ticksMonitor();
        t.ticksProving();
        t.ticksProvingFails();
        t.ticksDraws();
        t.ticksBounds();
        t.tells();
        t.starts();
        t.shuts();
        t.shutsOwnQueue();
        t.shutsFull();
        t.tunes();
        t.chances();
        t.chanceOfUnits();
        t.worths();
        t.comesNext();
        t.clears();
        t.windows();
        t.splits();
        t.takesNumbers();
        t.periods();
        t.probes();
        t.pairsOfLines();
        t.shares();
        t.restsOf();
        t.oddsOf();
        t.mosts();
        t.statesAndTwins();
        t.aheads();
        t.trials();
        t.spans();
        t.logs();
        t.seeds();
        t.undoes();
        t.images();
        t.counts();
        t.check.end("PromiseTest");
    }

    private void due(String what, Object due, Check.Call call) {
        check.due(what, due, call);
    }

    private void newObject() {
        CyclicLines x = new CyclicLines();
        due("1: NONE", -1, () -> CyclicLines.NONE);
        int[] counts = {0, 0, NONE, 0, 0, 0, 0, 0, 0, 0, 0};
        for (int i = 0; i < counts.length; i++) {
            int what = i;
            due("1: count " + i, counts[i], () -> x.count(what));
        }
        due("1: fault", NONE, x::fault);
        due("1: undo", false, x::undo);
        due("1: back", false, x::back);
        CyclicLines other = Check.of("line in");
        due("1: of its own", 0, () -> x.count(0));
        due("1: another", 1, () -> other.count(0));
    }

    private void feedAndEnd() {
        CyclicLines x = new CyclicLines();
        due("3: none to have", false, () -> x.end(1));
        due("3: none is enough", true, () -> x.end(0));
        for (int i = 1; i <= 20; i++) {
            due("2: feed " + i, 20 * i, () -> x.feed(1, 2, 3, 4, 5));
        }
        due("2: above 400", NONE, () -> x.feed(1, 2, 3, 4, 5));
        due("3: above what there is", false, () -> x.end(401));
        due("3: below 0", false, () -> x.end(-1));
        due("3: all", true, () -> x.end(400));
        due("3: 381", true, () -> x.end(381));
        due("2: 401 would be", NONE, () -> x.feed(1, 2, 3, 4, 5));
        due("3: 380", true, () -> x.end(380));
        due("2: 400 in all", 400, () -> x.feed(1, 2, 3, 4, 5));
        x.end(0);
        x.feed(0x00010203, 0x04050607, 0x08090a0b, 0x0c0d0e0f, 0x00010203);
        due("2: the highest first", 20, () -> x.takes(false));
        due("2: used up", 20, () -> x.feed(-1, 0, 0, 0, 0));
        due("2: bytes are 0 to 255", ARGUMENT, () -> x.takes(false));
        x.feed(0x00010200, 0, 0, 0, 0);
        x.end(3);
        due("3: alone", 3, () -> x.takes(false));
    }

    private void linesRight() {
        CyclicLines x = new CyclicLines();
        due("4: nothing told", 1, x::lines);
        due("4: blanks alone", 2, () -> Check.lines(x, "   "));
        due("4: all of one", 3, () -> Check.lines(x, "  line noise 7 delay 4 units 8 octets 60 limit 20 in ;line proving;line"));
        int[] first = {2, 7, 4, 8, 60, 20, 0, 0};
        int[] second = {1, 0, 2, 4, 30, 4, 0, 0};
        for (int i = 0; i < first.length; i++) {
            int what = i;
            due("4: first " + i, first[i], () -> x.line(0, what));
            due("4: second " + i, second[i], () -> x.line(1, what));
            due("4: third " + i, i == 0 ? 0 : second[i], () -> x.line(2, what));
        }
        due("4: units and tick", 4, () -> Check.lines(x, "units 2of 3 009 1;tick 999;units 2 of 4;line noise100delay1octets 9"));
        due("4: units in order", 4, () -> x.unit(2, 3, 1));
        due("4: three digits", 9, () -> x.unit(2, 1, 1));
        due("4: tick", 999, () -> x.count(3));
        due("4: words end where no letter is", 100, () -> x.line(3, 1));
        due("4: no blank is needed", 9, () -> x.line(3, 4));
        due("4: four", 4, () -> x.count(0));
        due("4: twelve units", 5, () -> Check.lines(x, "units 0 of 1 2 3 4 5 6 7 8 9 1 2 3"));
        due("4: 24 in a queue", 6, () -> Check.lines(x, "units 0 of 1 2 3 4 5 6 7 8 9 1 2 3;units 1 of 9"));
        due("4: 24", 24, () -> x.line(0, 6));
        CyclicLines y = new CyclicLines();
        due("4: 14 of a text", 1, () -> Check.lines(y, "line;tick 1;tick 2;tick 3;tick 4;tick 5;tick 6;tick 7;"
                + "tick 8;tick 9;tick 10;tick 11;tick 12;tick 13"));
        due("4: the last tick counts", 13, () -> y.count(3));
    }

    private void linesAre(String text, int fault) {
        CyclicLines x = Check.of("line in;units 0 of 5;tick 3");
        x.ticks(1);
        due("4: '" + text + "'", ARGUMENT, () -> Check.lines(x, text));
        due("4: fault of '" + text + "'", fault, x::fault);
        due("4: no line stays", 1, () -> x.count(0));
        due("4: no text", 1, () -> x.count(1));
        due("4: no tick", 4, () -> x.count(3));
        due("4: no unit", 1, () -> x.count(8));
        due("4: no unit waits", 1, () -> x.line(0, 6) + x.line(0, 7));
        due("4: acts stay", 1, () -> x.count(10));
        due("4: the tape is used up", 20, () -> x.feed(0, 0, 0, 0, 0));
    }

    private void linesWrong() {
        linesAre("lines", 0);
        linesAre("linez", 0);
        linesAre("tick 1;tick 1;tick 1;tick 1;tick 1;tick 1;tick 1;tick 1;tick 1;tick 1;"
                + "tick 1;tick 1;tick 1;tick 1; ", 99);
        linesAre("tick 1;tick 1;tick 1;tick 1;tick 1;tick 1;tick 1;tick 1;tick 1;tick 1;"
                + "tick 1;tick 1;tick 1;tick 1;;", 98);
        linesAre(" ;line", 1);
        linesAre("line;", 5);
        linesAre("line;  ", 7);
        linesAre("line;;line", 5);
        linesAre("line line", 5);
        linesAre("line 5", 5);
        linesAre("Line", 0);
        linesAre("line\tin", 4);
        linesAre("line noise", 10);
        linesAre("line noise in", 11);
        linesAre("line noise 101", 11);
        linesAre("line noise 0100", 11);
        linesAre("line delay 0", 11);
        linesAre("line delay 5", 11);
        linesAre("line units 9", 11);
        linesAre("line octets 61", 12);
        linesAre("line octets 8", 12);
        linesAre("line limit 0", 11);
        linesAre("line limit 21", 11);
        linesAre("line delay 1 noise 1", 13);
        linesAre("line noise 1 noise 2", 13);
        linesAre("line in proving", 8);
        linesAre("line out", 5);
        linesAre("tick", 4);
        linesAre("tick 7;tick 1000", 12);
        linesAre("units", 5);
        linesAre("line;line in;units 3 of 1", 19);
        linesAre("units 0", 7);
        linesAre("units 0 of", 10);
        linesAre("units 0 of;line", 10);
        linesAre("units 0 of 1 0", 13);
        linesAre("units 0 of 1 10", 13);
        linesAre("units 0 of 1 0001", 13);
        linesAre("units 0 of 1 in", 13);
        linesAre("units 0 of 1,2", 12);
        linesAre("units 0 of 1 1 1 1 1 1 1 1 1 1 1 1 1", 35);
        linesAre("units 0 of 1 1 1 1 1 1 1 1 1 1 1 1;units 0 of 1 1 1 1 1 1 1 1 1 1 1 1;units 0 of 1", 81);
        linesAre("line;line;line;line", 15);
        linesAre("line;line;line;line noise 500", 15);
        linesAre("tick 1;tick 1;tick 1;tick 1;tick 1;tick 1;tick 1;tick 1;tick 1;tick 1;"
                + "tick 1;tick 1;tick 1;tick 1;tick 1", 98);
        linesAre("line \u00e9", 5);
        linesAre("line in \u0000", 8);
        linesAre("tick 5;line (", 12);
    }

    /** Nothing of a text that was wrong, or of what was gone back from, is in a line told later. */
    private void linesAnew() {
        CyclicLines x = new CyclicLines();
        due("4: wrong", ARGUMENT, () -> Check.lines(x, "line noise 5 in;units 0 of 4 5 x"));
        Check.lines(x, "line");
        due("4: nothing waits", 0, () -> x.line(0, 6) + x.line(0, 1) + x.line(0, 0));
        CyclicLines y = new CyclicLines();
        y.image();
        Check.lines(y, "line noise 100 proving;units 0 of 1 2;line delay 4 in;units 1 of 3 4 5");
        y.ticks(20);
        y.tell(1, 1);
        y.ahead(NONE, 2);
        y.back();
        Check.lines(y, "line in;line delay 4 in");
        for (int i = 0; i < 2; i++) {
            int line = i;
            due("4: as at first " + i, 0, () -> {
                int sum = 0;
                for (int what = 6; what < 18; what++) {
                    sum += y.line(line, what);
                }
                return sum + y.air(line, 0, 0) + y.air(line, 1, 0);
            });
            due("4: no reply " + i, NONE, () -> y.reply(line, 1));
        }
    }

    private void linesTwelve() {
        CyclicLines x = new CyclicLines();
        for (int i = 1; i <= 12; i++) {
            due("4: text " + i, i, () -> Check.lines(x, "tick 1"));
        }
        due("4: a thirteenth", UNSUPPORTED, () -> Check.lines(x, "tick 2"));
        due("6: it is right", NONE, x::fault);
        due("4: nothing of it", 1, () -> x.count(3));
        due("4: the tape is used up", 20, () -> x.feed(0, 0, 0, 0, 0));
        x.end(0);
        due("4: a wrong thirteenth", ARGUMENT, () -> Check.lines(x, "tick"));
        due("6: it is wrong", 4, x::fault);
        due("4: twelve stay", 12, () -> x.count(1));
    }

    private void lawRight() {
        CyclicLines x = Check.of("line;line");
        due("5: one", 1, () -> Check.law(x, "spoil 7"));
        due("5: holds ever", 7, () -> x.chance(0));
        due("5: in place", 2, () -> Check.law(x, "spoil 9 if line > 0; spoil 20 if(line<1)"));
        due("5: of line 0", 20, () -> x.chance(0));
        due("5: of line 1", 9, () -> x.chance(1));
        due("5: six deep", 1, () -> Check.law(x, "spoil 5 if not (not (not (forced)))or not(((((filler)))))"));
        due("5: twelve", 12, () -> Check.law(x, "spoil 1;spoil 2;spoil 3;spoil 4;spoil 5;spoil 6;spoil 7;"
                + "mend 1;mend 2;mend 3;worth 99;spoil 99 if filler and forced"));
        due("5: sums", 22, () -> x.chance(0));
        due("5: none", 0, () -> Check.law(x, "  "));
        due("5: none holds", 0, () -> x.chance(0));
        due("5: a law without a line", 0, () -> x.count(2));
        // and goes ahead of or, not ahead of and
        due("5: order", 1, () -> Check.law(x, "spoil 3 if filler or filler and forced"));
        due("5: or last", 3, () -> x.chance(0));
        Check.law(x, "spoil 3 if not filler and forced");
        due("5: not of an atom alone", 0, () -> x.chance(0));
        Check.law(x, "spoil 3 if not forced and filler or forced");
        due("5: not, and, or", 3, () -> x.chance(0));
        Check.law(x, "spoil 3 if 1+1+delay>3;spoil 4 if 999 + 999<999+999+1;spoil 5 if 2<delay;spoil 8 if delay>2");
        due("5: sums are compared", 7, () -> x.chance(0));
    }

    /** Of 400 bytes, and many one behind another. */
    private void lawLong() {
        CyclicLines x = Check.of("line");
        StringBuilder text = new StringBuilder("spoil 7 if kept");
        while (text.length() < 396) {
            text.append("+1");
        }
        text.append(">99");
        check.same("5: all of the tape", 400, text.length());
        for (int i = 0; i < 20; i++) {
            due("5: long " + i, 1, () -> Check.law(x, text.toString()));
        }
        due("5: 191 in all", 7, () -> x.chance(0));
        Check.law(x, text.toString().replace(">99", ">191").replace("+1+1+1>", "+1>"));
        due("5: 189 in all", 0, () -> x.chance(0));
        StringBuilder ands = new StringBuilder("spoil 7 if 1<2");
        while (ands.length() < 380) {
            ands.append(" and 1<2 or 2<1");
        }
        due("5: many", 1, () -> Check.law(x, ands.toString()));
        due("5: many hold", 7, () -> x.chance(0));
    }

    private void lawIs(String text, int fault) {
        CyclicLines x = Check.of("line noise 1");
        Check.law(x, "spoil 4");
        x.start(0);
        due("5: '" + text + "'", ARGUMENT, () -> Check.law(x, text));
        due("5: fault of '" + text + "'", fault, x::fault);
        due("5: the one before stays", 5, () -> x.chance(0));
        due("5: its lines", 1, () -> x.count(2));
        due("5: acts stay", 1, () -> x.count(10));
        due("5: the tape is used up", 20, () -> x.feed(0, 0, 0, 0, 0));
    }

    private void lawWrong() {
        lawIs("spoil", 5);
        lawIs("spoil 100", 6);
        lawIs("spoil 0001", 6);
        lawIs("spoils 1", 0);
        lawIs("spoil if", 6);
        lawIs("spoil 1;", 8);
        lawIs("spoil 1 ; ; mend 1", 10);
        lawIs("spoil 1 mend 1", 8);
        lawIs("spoil 1 if", 10);
        lawIs("spoil 1 if ;", 11);
        lawIs("spoil 1 if kept", 15);
        lawIs("spoil 1 if kept and", 16);
        lawIs("spoil 1 if kept +", 17);
        lawIs("spoil 1 if kept < >", 18);
        lawIs("spoil 1 if kept < 1000", 18);
        lawIs("spoil 1 if 1 < 2 < 3", 17);
        lawIs("spoil 1 if filler + 1 > 0", 18);
        lawIs("spoil 1 if 1 < filler", 15);
        lawIs("spoil 1 if (filler", 18);
        lawIs("spoil 1 if filler)", 17);
        lawIs("spoil 1 if (kept) < 2", 16);
        lawIs("spoil 1 if ()", 12);
        lawIs("spoil 1 if filler or", 20);
        lawIs("spoil 1 if or filler", 11);
        lawIs("spoil 1 if filler and not", 25);
        lawIs("spoil 1 if noise > 3", 11);
        lawIs("spoil 1 if filler filler", 18);
        lawIs("spoil 1 if kept = 1", 16);
        lawIs("spoil 1 if ((((((filler)))))) and not(((((( filler", 42);
        lawIs("spoil 1 if not(not(not(not filler", 23);
        lawIs("spoil 1 if not(not(not(not(filler))))", 23);
        lawIs("spoil 1 if (((((((", 17);
        lawIs("mend 1;mend 1;mend 1;mend 1;mend 1;mend 1;mend 1;mend 1;mend 1;mend 1;mend 1;mend 1;worth 1", 84);
        lawIs("mend 1;mend 1;mend 1;mend 1;mend 1;mend 1;mend 1;mend 1;mend 1;mend 1;mend 1;mend 1;", 84);
        lawIs("line", 0);
        lawIs("worth 1 if tick > 1 \u00ff", 20);
    }

    private void faults() {
        CyclicLines x = new CyclicLines();
        due("6: wrong", ARGUMENT, () -> Check.lines(x, "line x"));
        due("6: where", 5, x::fault);
        x.feed(-1, 0, 0, 0, 0);
        due("6: no text", ARGUMENT, () -> x.takes(false));
        due("6: of a text alone", 5, x::fault);
        Check.law(x, "mend 1");
        due("6: the latest", NONE, x::fault);
        due("6: wrong law", ARGUMENT, () -> Check.law(x, "mend 1 2"));
        due("6: of a law", 7, x::fault);
        Check.lines(x, "");
        due("6: none again", NONE, x::fault);
    }

    private void lineWhats() {
        CyclicLines x = Check.of("line in;line;units 0 of 2 3;units 1 of 4 6");
        due("7: what -1", NONESUCH, () -> x.line(0, -1));
        due("7: what 21", NONESUCH, () -> x.line(0, 21));
        due("7: line 2", INDEX, () -> x.line(2, 0));
        due("7: line -1", INDEX, () -> x.line(-1, 0));
        due("7: the line first", INDEX, () -> x.line(2, 21));
        due("7: load", 5, () -> x.line(0, 17));
        due("7: part", 33, () -> x.line(0, 20));
        due("7: the other part", 66, () -> x.line(1, 20));
        x.ticks(1);
        due("7: load of both rows", 5, () -> x.line(0, 17));
        due("7: queue", 1, () -> x.line(0, 6));
        due("7: back", 1, () -> x.line(0, 7));
        CyclicLines y = Check.of("line");
        due("7: part without", 0, () -> y.line(0, 20));
    }

    private void unitsTold() {
        CyclicLines x = Check.of("line in;line;units 1 of 9;units 0 of 2 3");
        x.ticks(1);
        due("8: serial in back", 1, () -> x.unit(0, 0, 0));
        due("8: length in back", 2, () -> x.unit(0, 0, 1));
        due("8: number in back", 0, () -> x.unit(0, 0, 2));
        due("8: serial in queue", 2, () -> x.unit(0, 1, 0));
        due("8: length in queue", 3, () -> x.unit(0, 1, 1));
        due("8: number in queue", NONE, () -> x.unit(0, 1, 2));
        due("8: behind", NONE, () -> x.unit(0, 2, 0));
        due("8: below", NONE, () -> x.unit(0, -1, 1));
        due("8: far behind", NONE, () -> x.unit(0, Integer.MAX_VALUE, 1));
        due("8: what 3", NONESUCH, () -> x.unit(0, 0, 3));
        due("8: what 3 of none", NONESUCH, () -> x.unit(0, 9, -1));
        due("8: line 2", INDEX, () -> x.unit(2, 0, 3));
    }

    private void airAndReply() {
        CyclicLines x = Check.of("line delay 3 in;line noise 100 delay 1 in;line;units 0 of 2");
        due("9: nothing", 0, () -> x.air(0, 0, 0));
        due("9: nothing has no serial", NONE, () -> x.air(0, 0, 1));
        due("9: nothing has no number", NONE, () -> x.air(0, 0, 2));
        due("9: nothing is not bad", 0, () -> x.air(0, 0, 3));
        due("9: no fourth place", NONE, () -> x.air(0, 3, 0));
        due("9: no place below", NONE, () -> x.air(0, -1, 3));
        due("9: what 4", NONESUCH, () -> x.air(0, 9, 4));
        due("9: line 3", INDEX, () -> x.air(3, 0, 4));
        due("10: nothing", NONE, () -> x.reply(0, 2));
        due("10: line 3", INDEX, () -> x.reply(3, 0));
        x.ticks(1);
        due("9: in the last place", 2, () -> x.air(0, 2, 0));
        due("9: its serial", 0, () -> x.air(0, 2, 1));
        due("9: its number", 0, () -> x.air(0, 2, 2));
        due("9: not bad", 0, () -> x.air(0, 2, 3));
        due("9: a filler", 1, () -> x.air(1, 0, 0));
        due("9: a filler has no serial", NONE, () -> x.air(1, 0, 1));
        due("9: a filler has no number", NONE, () -> x.air(1, 0, 2));
        due("9: a bad filler", 1, () -> x.air(1, 0, 3));
        due("10: in the last place", 0, () -> x.reply(0, 2));
        due("10: not in the first one", NONE, () -> x.reply(0, 0));
        due("10: no fourth place", NONE, () -> x.reply(0, 3));
        due("10: no place below", NONE, () -> x.reply(0, -1));
        due("10: of one that is out", NONE, () -> x.reply(2, 0));
        x.ticks(3);
        due("10: told behind the arrival", 1, () -> x.reply(0, 2));
        due("10: the one before", 0, () -> x.reply(0, 1));
        due("9: repeated", 0, () -> x.air(0, 1, 1));
    }

    private void ticksCalls() {
        CyclicLines x = Check.of("line delay 1 in;units 0 of 2 3 4");
        due("11: none", ARGUMENT, () -> x.ticks(0));
        due("11: below", ARGUMENT, () -> x.ticks(-5));
        due("11: above", ARGUMENT, () -> x.ticks(61));
        due("11: nothing happened", 0, () -> x.count(3) + x.count(10));
        due("11: first", 0, () -> x.ticks(1));
        due("11: taken in these", 1, () -> x.ticks(1));
        due("11: all others", 2, () -> x.ticks(60));
        due("11: all", 3, () -> x.count(4));
        due("11: tick", 62, () -> x.count(3));
        due("11: one act each", 3, () -> x.count(10));
    }

    /** BACK is full: the line repeats a full round, and once more, till the far end has told. */
    private void ticksForced() {
        CyclicLines x = Check.of("line delay 4 units 2 in;units 0 of 1 2 3");
        x.ticks(2);
        due("11: not yet forced", 0, () -> x.line(0, 9));
        x.ticks(1);
        due("11: forced", 1, () -> x.line(0, 9));
        due("11: hand", 1, () -> x.line(0, 8));
        due("11: the first of back is sent", 0, () -> x.air(0, 3, 1));
        int[] row = {2, 0, 1, 2};
        for (int i = 0; i < 4; i++) {
            int what = i;
            due("34: forced " + i, row[i], () -> x.log(0, what));
        }
        x.ticks(1);
        due("11: the last of back is sent", 1, () -> x.air(0, 3, 1));
        due("11: the round is over", 0, () -> x.line(0, 9));
        due("11: hand is 0", 0, () -> x.line(0, 8));
        due("11: taken", 1, () -> x.ticks(1));
        due("11: forced anew", 1, () -> x.line(0, 9));
        due("34: forced anew", 2, () -> x.led(0, false) - x.count(4));
        due("11: taken too", 1, () -> x.ticks(1));
        due("11: repeated is not expected", 0, () -> x.ticks(2));
        due("11: third round over", 0, () -> x.line(0, 9));
        x.ticks(1);
        due("11: told at last", 2, () -> x.line(0, 7));
        due("11: the first left", 1, () -> x.unit(0, 0, 0));
        due("11: the third came", 2, () -> x.unit(0, 1, 2));
        due("11: anew leaves the hand", 0, () -> x.line(0, 8));
        x.ticks(1);
        due("11: idle repeats the first", 2, () -> x.air(0, 3, 1));
        due("11: the second left", 1, () -> x.line(0, 7));
        due("11: taken at the end", 1, () -> x.ticks(3));
    }

    private void ticksOctets() {
        CyclicLines x = Check.of("line delay 4 octets 9 in;line delay 4 octets 9 in;units 0 of 4 5 1;units 1 of 4 6");
        x.ticks(2);
        due("11: just octets most", 2, () -> x.line(0, 7));
        due("11: above octets most", 1, () -> x.line(1, 7));
        due("11: one that has one kept", 0, () -> x.line(1, 9));
        due("34: forced at once", 1, () -> x.led(1, false));
        x.ticks(1);
        due("11: forced by octets", 1, () -> x.line(0, 9));
        due("34: how many back has", 1, () -> x.log(0, 3));
    }

    private void ticksIdle() {
        CyclicLines x = Check.of("line delay 4 in;units 0 of 1 2 3");
        x.ticks(3);
        due("11: hand stays for new ones", 0, () -> x.line(0, 8));
        for (int i = 0; i < 2; i++) {
            x.ticks(1);
            int serial = i;
            due("11: round and round " + i, serial, () -> x.air(0, 3, 1));
            due("11: hand " + i, serial + 1, () -> x.line(0, 8));
        }
        due("11: idle is not forced", 0, () -> x.line(0, 9));
        x.tell(0, 4);
        x.ticks(1);
        due("11: a new one goes ahead", 3, () -> x.air(0, 3, 1));
        due("11: and leaves the hand", 2, () -> x.line(0, 8));
        x.ticks(1);
        due("11: on at the hand", 2, () -> x.air(0, 3, 1));
        due("11: hand behind it", 3, () -> x.line(0, 8));
        due("11: all four kept", 4, () -> x.line(0, 7));
        x.ticks(2);
        // At tick 8 the number 1 comes back, which was told at tick 4: the first leaves, the hand was 0.
        due("11: left of back", 3, () -> x.line(0, 7));
        due("11: the hand is 0 at least", 1, () -> x.air(0, 3, 1));
        due("11: and goes on", 1, () -> x.line(0, 8));
        x.ticks(1);
        due("11: left of back too", 2, () -> x.line(0, 7));
        due("11: the hand is as many less", 2, () -> x.air(0, 3, 1));
        due("11: and goes on again", 1, () -> x.line(0, 8));
    }

    private void ticksNumbers() {
        CyclicLines x = Check.of("line delay 1 in;units 0 of 1 1 1 1 1 1 1 1 1 1 1 1;units 0 of 1 1 1 1 1 1");
        due("11: all", 18, () -> x.ticks(20));
        due("7: next goes round", 2, () -> x.line(0, 10));
        due("7: expect goes round", 2, () -> x.line(0, 11));
        due("7: nothing kept", 0, () -> x.line(0, 7));
        due("34: the serials", 17, () -> x.log(0, 3));
    }

    private void ticksReturn() {
        // The second unit is bad each time until tick 20.
        CyclicLines x = Check.of("line delay 2 limit 20 in;units 0 of 3 7 3");
        Check.law(x, "spoil 99 if length>6 and tick<20;spoil 1 if length>6 and tick<20");
        due("11: just the first", 1, () -> x.ticks(4));
        due("7: it expects the second", 1, () -> x.line(0, 11));
        due("11: the third is not expected", 0, () -> x.ticks(16));
        due("7: two kept", 2, () -> x.line(0, 7));
        due("7: the monitor stays calm", 2, () -> x.line(0, 0));
        due("11: then both", 2, () -> x.ticks(8));
        due("7: all left", 0, () -> x.line(0, 7));
        due("34: in order", 2, () -> x.log(0, 3));
        due("34: once", 1, () -> x.log(1, 3));
        due("5: worth is length", 13, () -> x.count(5));
    }

    private void ticksMonitor() {
        CyclicLines x = Check.of("line noise 100 in;line noise 100 limit 1 in;line in;units 1 of 5 6");
        x.ticks(3);
        due("7: bucket", 1, () -> x.line(0, 12));
        due("7: good", 1, () -> x.line(2, 13));
        due("11: bucket is limit", 2, () -> x.line(1, 0));
        x.ticks(1);
        due("11: above limit", 0, () -> x.line(1, 0));
        due("7: bucket begins anew", 0, () -> x.line(1, 12));
        due("8: what went over", 0, () -> x.unit(0, 0, 0) + x.line(2, 6));
        due("8: to the fewest", 2, () -> x.line(0, 6));
        int[][] rows = {{3, 1, 5, 2}, {3, 1, 2, 2}};
        for (int ago = 0; ago < 2; ago++) {
            for (int i = 0; i < 4; i++) {
                int a = ago;
                int what = i;
                due("34: out " + ago + " " + i, rows[ago][i], () -> x.log(a, what));
            }
        }
        x.ticks(2);
        due("11: five is not yet", 4, () -> x.line(0, 12));
        x.ticks(1);
        due("11: the first is out", 4, () -> x.byState(2));
        due("8: all goes on", 2, () -> x.line(2, 6) + x.line(2, 7));
        CyclicLines y = Check.of("line in");
        Check.law(y, "spoil 99 if tick<1 or tick>8 and tick<10;spoil 1 if tick<1 or tick>8 and tick<10");
        y.ticks(3);
        due("7: one bad", 1, () -> y.line(0, 12));
        y.ticks(7);
        due("7: seven good", 7, () -> y.line(0, 13));
        y.ticks(1);
        due("7: the eighth", 0, () -> y.line(0, 12) + y.line(0, 13));
        y.ticks(1);
        due("7: bad again", 1, () -> y.line(0, 12));
        y.ticks(4);
        due("7: good goes on", 4, () -> y.line(0, 13));
    }

    private void ticksProving() {
        CyclicLines x = Check.of("line proving;line delay 1 proving;units 0 of 4");
        x.ticks(7);
        due("7: proved", 7, () -> x.line(0, 14));
        due("7: proving", 3, () -> x.byState(1));
        due("10: nothing in return", NONE, () -> x.reply(0, 0));
        due("9: a filler", 1, () -> x.air(0, 0, 0));
        due("7: good of fillers", 6, () -> x.line(1, 13));
        x.ticks(1);
        due("7: in", 3, () -> x.byState(2));
        due("7: begins", 0, () -> x.line(0, 14) + x.line(0, 13) + x.line(1, 13));
        due("9: nothing in the air", 0, () -> x.air(0, 1, 0) + x.air(0, 0, 0));
        int[] row = {7, 1, 4, 0};
        for (int i = 0; i < 4; i++) {
            int what = i;
            due("34: in " + i, row[i], () -> x.log(0, what));
        }
        due("34: both", 2, () -> x.count(9));
        due("11: and works", 1, () -> x.ticks(3));
        CyclicLines y = Check.of("line proving");
        Check.law(y, "spoil 99 if tick<1;spoil 1 if tick<1");
        y.ticks(5);
        due("7: bad", 1, () -> y.line(0, 15));
        y.ticks(3);
        due("7: one bad is in", 2, () -> y.line(0, 0));
        due("34: bad as it was", 1, () -> y.log(0, 3));
    }

    private void ticksProvingFails() {
        CyclicLines x = Check.of("line noise 100 proving;line in;units 0 of 4");
        x.ticks(8);
        due("7: tries", 1, () -> x.line(0, 16));
        due("7: proved anew", 0, () -> x.line(0, 14) + x.line(0, 15));
        due("7: bucket stays", 6, () -> x.line(0, 12));
        x.ticks(8);
        due("7: tries twice", 2, () -> x.line(0, 16));
        x.ticks(7);
        due("7: bad", 7, () -> x.line(0, 15));
        due("7: still proving", 1, () -> x.line(0, 0));
        x.ticks(1);
        due("7: out", 0, () -> x.line(0, 0) + x.line(0, 16));
        int[] row = {23, 0, 3, 8};
        for (int i = 0; i < 4; i++) {
            int what = i;
            due("34: out of proving " + i, row[i], () -> x.log(0, what));
        }
        due("34: not changed over", 1, () -> x.led(0, false));
        due("7: its queue stays", 1, () -> x.line(0, 6));
        due("9: what is in the air stays", 1, () -> x.air(0, 0, 3));
        due("7: bucket as it was", 22, () -> x.line(0, 12));
        x.start(0);
        due("13: bucket 0", 0, () -> x.line(0, 12));
        x.ticks(1);
        due("11: what was in the air arrives", 1, () -> x.line(0, 12));
        CyclicLines y = Check.of("line proving");
        Check.law(y, "spoil 99 if tick<2;spoil 1 if tick<2");
        y.ticks(8);
        due("7: two bad are too many", 1, () -> y.line(0, 16));
        y.ticks(8);
        due("7: then in", 2, () -> y.line(0, 0));
        due("7: tries 0", 0, () -> y.line(0, 16));
    }

    private void ticksDraws() {
        CyclicLines x = Check.of("line noise 50 delay 4 in;line noise 100 in;line");
        int seed = 1;
        int[] bad = new int[4];
        for (int i = 0; i < 4; i++) {
            seed = seed * 1103515245 + 12345;
            bad[i] = (seed >>> 16) % 32768 % 100 < 50 ? 1 : 0;
            // The second line draws, too, though it cannot matter; the third is out.
            seed = seed * 1103515245 + 12345;
        }
        x.ticks(4);
        for (int i = 0; i < 4; i++) {
            int place = i;
            due("11: draw " + i, bad[i], () -> x.air(0, place, 3));
        }
        due("35: the seed goes on", seed, () -> x.seed(1));
    }

    private void ticksBounds() {
        CyclicLines x = Check.of("line delay 1 octets 60 in;tick 999");
        Check.law(x, "worth 99;worth 99;worth 99;worth 99;worth 99;worth 99;worth 99;worth 99;worth 99;worth 99;"
                + "worth 99;worth 99");
        for (int i = 0; i < 90; i++) {
            x.tell(0, 9);
            x.ticks(1);
        }
        x.ticks(2);
        due("11: worth is at most 99999", 99999, () -> x.count(5));
        due("11: all taken", 90, () -> x.count(4));
        for (int i = 0; i < 149; i++) {
            x.ticks(60);
        }
        due("11: tick goes on", 999 + 92 + 8940 > 9999 ? 9999 : 0, () -> x.count(3));
        x.ticks(60);
        due("11: tick is 9999 at most", 9999, () -> x.count(3));
        due("34: at most 60 rows", 60, () -> x.count(9));
        due("33: rows that are there", 60, () -> x.led(0, false));
        due("34: the sixtieth", 30, () -> x.log(59, 3));
        due("34: no more", NONE, () -> x.log(60, 3));
    }

    private void tells() {
        CyclicLines x = Check.of("line;units 0 of 1 1 1 1 1 1 1 1 1 1 1 1;units 0 of 2 2 2 2 2 2 2 2 2 2");
        due("12: serial", 22, () -> x.tell(0, 1));
        due("12: length 9", 23, () -> x.tell(0, 9));
        due("12: full", STATE, () -> x.tell(0, 9));
        due("12: the length first", ARGUMENT, () -> x.tell(0, 10));
        due("12: length 0", ARGUMENT, () -> x.tell(0, 0));
        due("12: the line first", INDEX, () -> x.tell(1, 0));
        due("12: line -1", INDEX, () -> x.tell(-1, 1));
        due("12: told", 24, () -> x.count(8));
        due("12: at the end", 9, () -> x.unit(0, 23, 1));
        due("12: acts", 2, () -> x.count(10));
        x.undo();
        due("12: the serial again", 23, () -> x.tell(0, 3));
    }

    private void starts() {
        CyclicLines x = Check.of("line;line proving;line in");
        due("13: both", 2, () -> x.start(0));
        due("13: proving", STATE, () -> x.start(0));
        due("13: in", STATE, () -> x.start(2));
        due("13: no line", INDEX, () -> x.start(3));
        due("13: state", 1, () -> x.line(0, 0));
        due("13: an act", 1, () -> x.count(10));
    }

    private void shuts() {
        CyclicLines x = new CyclicLines();
        due("14: no line", INDEX, () -> x.shut(0));
        CyclicLines y = Check.of("line delay 4 in;line in;line in;line;units 0 of 1 2 3 4;units 1 of 5 5;units 2 of 6 6");
        due("14: out", STATE, () -> y.shut(3));
        due("14: no such line", INDEX, () -> y.shut(4));
        y.ticks(3);
        due("14: rest of back and queue", 4, () -> y.shut(0));
        due("14: of like ones the least", 4, () -> y.line(1, 6));
        due("8: back first", 0, () -> y.unit(1, y.line(1, 7), 0));
        due("8: without a number", NONE, () -> y.unit(1, y.line(1, 7), 2));
        due("8: then the queue", 3, () -> y.unit(1, y.line(1, 7) + 3, 0));
        int[] row = {3, 0, 5, 4};
        for (int i = 0; i < 4; i++) {
            int what = i;
            due("34: changed over " + i, row[i], () -> y.log(0, what));
        }
        int[] begun = {0, 0, 4, 4, 30, 4, 0, 0, 0, 0, 0, 0, 0, 0, 0, 0, 0, 0, NONE};
        for (int i = 0; i < begun.length; i++) {
            int what = i;
            due("14: begins " + i, begun[i], () -> y.line(0, what));
        }
        due("9: nothing in the air", 0, () -> y.air(0, 3, 0));
        due("10: nothing in return", NONE, () -> y.reply(0, 3));
        // What the far end took is dropped though the line was not told.
        CyclicLines z = Check.of("line delay 2 in;line in;units 0 of 1 2 3");
        z.ticks(3);
        due("14: not what was taken", 2, () -> z.shut(0));
        due("8: from the second on", 1, () -> z.unit(1, 0, 0));
        due("11: taken once", 2, () -> z.ticks(20));
        CyclicLines w = Check.of("line delay 1 in;line proving;line in;units 0 of 1;units 1 of 2");
        w.ticks(2);
        due("14: all was taken", 0, () -> w.shut(0));
        due("14: of one that proves", 1, () -> w.shut(1));
        due("8: its queue went", 1, () -> w.unit(2, 0, 0));
    }

    private void shutsOwnQueue() {
        CyclicLines x = Check.of("line delay 4 in;line proving;units 0 of 1 2 3");
        x.ticks(2);
        due("14: none is in", 0, () -> x.shut(0));
        due("14: its own queue", 3, () -> x.line(0, 6));
        due("8: in order", 0, () -> x.unit(0, 0, 0));
        due("8: in order to the end", 2, () -> x.unit(0, 2, 0));
        due("34: none went", 0, () -> x.log(0, 3));
        x.start(0);
        x.ticks(8);
        due("11: once and in order", 3, () -> x.ticks(10));
        due("34: last", 2, () -> x.log(0, 3));
    }

    private void shutsFull() {
        CyclicLines x = Check.of("line delay 4 in;line;line");
        for (int i = 0; i < 4; i++) {
            x.start(1);
            for (int k = 0; k < 24; k++) {
                x.tell(1, 1 + k % 9);
            }
            due("14: room for " + i, 24, () -> x.shut(1));
        }
        due("14: 96", 96, () -> x.line(0, 6));
        due("12: above 24", STATE, () -> x.tell(0, 1));
        x.ticks(1);
        x.start(1);
        x.tell(1, 5);
        x.tell(1, 6);
        due("14: room for one", 1, () -> x.shut(1));
        due("34: room for one", 1, () -> x.log(0, 3));
        due("14: lost", 97, () -> x.count(6) + x.count(7));
        due("8: the last", 96, () -> x.unit(0, 96, 0));
        due("14: own queue", 0, () -> x.shut(0));
        due("14: own queue has 96", 96, () -> x.line(0, 6));
        due("8: the first of back", 0, () -> x.unit(0, 0, 0));
        due("8: the last is lost", 95, () -> x.unit(0, 95, 0));
        due("12: told all the same", 98, () -> x.count(8));
    }

    private void tunes() {
        CyclicLines x = Check.of("line");
        int[][] bounds = {{0, 100}, {1, 8}, {9, 60}, {1, 20}};
        int[] was = {0, 4, 30, 4};
        int[] whats = {1, 3, 4, 5};
        for (int i = 0; i < 4; i++) {
            int what = i;
            due("15: below " + i, ARGUMENT, () -> x.tune(0, what, bounds[what][0] - 1));
            due("15: above " + i, ARGUMENT, () -> x.tune(0, what, bounds[what][1] + 1));
            due("15: was " + i, was[i], () -> x.tune(0, what, bounds[what][0]));
            due("15: least " + i, bounds[i][0], () -> x.line(0, whats[what]));
            due("15: was least " + i, bounds[i][0], () -> x.tune(0, what, bounds[what][1]));
            due("15: most " + i, bounds[i][1], () -> x.line(0, whats[what]));
        }
        due("15: what 4", NONESUCH, () -> x.tune(0, 4, 10));
        due("15: what -1", NONESUCH, () -> x.tune(0, -1, 10));
        due("15: no line", INDEX, () -> x.tune(1, 4, 10));
        due("15: acts", 8, () -> x.count(10));
        // Fewer than are kept: none comes, none goes.
        CyclicLines y = Check.of("line delay 4 in;units 0 of 1 1 1 1");
        y.ticks(3);
        y.tune(0, 1, 1);
        y.ticks(1);
        due("15: forced", 1, () -> y.line(0, 9));
        due("15: still kept", 3, () -> y.line(0, 7));
    }

    private int chanceBy(String line, String law) {
        CyclicLines x = Check.of(line);
        Check.law(x, law);
        return x.chance(0);
    }

    private void chances() {
        due("16: noise", 12, () -> Check.of("line noise 12").chance(0));
        due("16: no line", INDEX, () -> Check.of("line").chance(1));
        due("16: spoil and mend", 19, () -> chanceBy("line noise 12", "spoil 9;mend 4;spoil 2"));
        due("16: 0 at least", 0, () -> chanceBy("line noise 12", "mend 13;spoil 0"));
        due("16: 100 at most", 100, () -> chanceBy("line noise 12", "spoil 99;spoil 99;mend 20"));
        due("16: worth is nothing", 12, () -> chanceBy("line noise 12", "worth 50"));
        due("16: length 0", 7, () -> chanceBy("line", "spoil 7 if length<1;spoil 8 if length>0"));
        due("16: delay", 7, () -> chanceBy("line delay 3", "spoil 7 if delay>2 and delay<4"));
        due("16: queue", 7, () -> chanceBy("line;units 0 of 1 2", "spoil 7 if queue>1 and queue<3;spoil 9 if kept>0"));
        due("16: tick", 7, () -> chanceBy("tick 299;line", "spoil 7 if tick>98 and tick<100"));
        due("16: tick 0", 7, () -> chanceBy("tick 300;line", "spoil 7 if tick<1"));
        due("16: a filler", 7, () -> chanceBy("line", "spoil 7 if filler;spoil 8 if repeat;spoil 9 if forced"));
        CyclicLines x = Check.of("line noise 100 delay 4 units 1 limit 9 in;units 0 of 1 2");
        Check.law(x, "mend 90 if kept>0 and kept<2;spoil 3 if queue>0;mend 5 if bucket>0;spoil 2 if forced");
        due("16: as it is", 100, () -> x.chance(0));
        x.ticks(1);
        due("16: kept", 13, () -> x.chance(0));
        x.seed(1);
        x.ticks(3);
        x.ticks(1);
        due("16: bucket", x.line(0, 12) > 0 ? 8 : 13, () -> x.chance(0));
        CyclicLines y = Check.of("line delay 4 units 2 in;units 0 of 1 2 3");
        Check.law(y, "spoil 2 if forced;spoil 1 if repeat");
        y.ticks(3);
        due("16: forced", 2, () -> y.chance(0));
        due("16: answers alone", 3, () -> y.count(3));
    }

    /** Whether the k-th thing sent on line 0 is bad by a law that spoils wholly if a condition holds. */
    private int[] spoiled(String lines, String condition) {
        CyclicLines x = Check.of(lines);
        Check.law(x, "spoil 99 if " + condition + ";spoil 1 if " + condition);
        x.ticks(4);
        int[] bad = new int[4];
        for (int i = 0; i < 4; i++) {
            bad[i] = x.air(0, i, 3);
        }
        return bad;
    }

    private void spoils(String lines, String condition, int a, int b, int c, int d) {
        int[] bad = spoiled(lines, condition);
        int[] due = {a, b, c, d};
        for (int i = 0; i < 4; i++) {
            check.same("16: " + condition + " " + i, due[i], bad[i]);
        }
    }

    private void chanceOfUnits() {
        // Sent are the units 0 and 1, then in a forced round 0 and 1 again.
        String round = "line delay 4 units 2 in;units 0 of 1 2 3";
        spoils(round, "forced", 0, 0, 1, 1);
        spoils(round, "repeat", 0, 0, 1, 1);
        spoils(round, "length>1", 0, 1, 0, 1);
        spoils(round, "kept>1", 0, 1, 1, 1);
        spoils(round, "kept<1", 0, 0, 0, 0);
        spoils(round, "queue>1", 1, 0, 0, 0);
        spoils(round, "filler", 0, 0, 0, 0);
        spoils(round, "tick>0 and tick<3", 0, 1, 1, 0);
        spoils(round, "not forced", 1, 1, 0, 0);
        // Sent is a unit, then it again in idle rounds; then fillers alone.
        spoils("line delay 4 in;units 0 of 5", "forced", 0, 0, 0, 0);
        spoils("line delay 4 in;units 0 of 5", "repeat", 0, 1, 1, 1);
        spoils("line delay 4 in", "repeat or length>0", 0, 0, 0, 0);
        spoils("line delay 4 proving;units 0 of 5 5", "filler and queue>1 and length<1", 1, 1, 1, 1);
        // One that waits behind one: a forced round of one, each time.
        spoils("line delay 4 units 1 in;units 0 of 5 4", "forced", 0, 1, 1, 1);
    }

    private int worthOf(String lines, String law, int ticks) {
        CyclicLines x = Check.of(lines);
        Check.law(x, law);
        x.ticks(ticks);
        return x.count(5);
    }

    private void worths() {
        due("5: length", 7, () -> worthOf("line in;units 0 of 7", "", 3));
        due("5: worth", 47, () -> worthOf("line in;units 0 of 7", "worth 40;spoil 0;mend 9", 3));
        due("5: no filler", 7, () -> worthOf("line in;units 0 of 7", "worth 40 if filler", 3));
        due("5: sent once", 7, () -> worthOf("line delay 1 in;units 0 of 7", "worth 40 if repeat", 2));
        due("5: sent twice", 47, () -> worthOf("line delay 2 in;units 0 of 7", "worth 40 if repeat", 3));
        due("5: its length", 47, () -> worthOf("line in;units 0 of 7", "worth 40 if length>6", 3));
        due("5: kept", 47, () -> worthOf("line in;units 0 of 7 7", "worth 40 if kept>1", 3));
        due("5: queue", 47, () -> worthOf("line in;units 0 of 7 7 7 7", "worth 40 if queue>1 and queue<3", 3));
        due("5: line", 47, () -> worthOf("line;line in;units 1 of 7", "worth 40 if line>0", 3));
        due("5: tick", 47, () -> worthOf("line in;units 0 of 7", "worth 40 if tick>1", 3));
        due("5: forced", 47, () -> worthOf("line delay 3 units 2 in;units 0 of 7 7 7", "worth 40 if forced", 4));
        due("5: not forced", 7, () -> worthOf("line delay 3 units 3 in;units 0 of 7 7 7", "worth 40 if forced", 4));
        // The bad filler fills the bucket; the unit is the eighth good one and leaks it first.
        String leak = "worth 40 if bucket<1;spoil 99 if tick<1;spoil 1 if tick<1";
        CyclicLines x = Check.of("line delay 1 in");
        Check.law(x, leak);
        x.ticks(8);
        x.tell(0, 7);
        x.ticks(2);
        due("5: behind the bucket", 47, () -> x.count(5));
        CyclicLines y = Check.of("line delay 1 in");
        Check.law(y, leak);
        y.ticks(7);
        y.tell(0, 7);
        y.ticks(2);
        due("5: bucket", 7, () -> y.count(5));
    }

    private void comesNext() {
        CyclicLines x = Check.of("line;line proving;line in;units 0 of 1;units 1 of 1");
        due("7: out", NONE, () -> x.line(0, 18));
        due("7: proving", NONE, () -> x.line(1, 18));
        due("7: a filler", NONE, () -> x.line(2, 18));
        CyclicLines y = Check.of("line delay 4 units 3 in;units 0 of 1 2 3 4");
        int[] comes = {0, 1, 2, 0, 1, 2, 0, 1};
        for (int i = 0; i < comes.length; i++) {
            due("7: comes " + i, comes[i], () -> y.line(0, 18));
            int forced = i > 3 && i % 3 != 0 ? 1 : 0;
            due("7: forced " + i, forced, () -> y.line(0, 9));
            y.ticks(1);
            due("9: came " + i, comes[i], () -> y.air(0, 3, 1));
        }
        CyclicLines z = Check.of("line delay 4 in;units 0 of 1 2");
        z.ticks(3);
        due("7: at the hand", 1, () -> z.line(0, 18));
    }

    private void clears() {
        due("17: nothing", 0, () -> Check.of("line in").clear());
        // Sent at tick 0, taken at tick 2, told then, back at tick 4: five ticks.
        due("17: one", 5, () -> Check.of("line in;units 0 of 4").clear());
        due("17: short way", 3, () -> Check.of("line delay 1 in;units 0 of 4").clear());
        due("17: long way", 9, () -> Check.of("line delay 4 in;units 0 of 4").clear());
        due("17: the last one", 9, () -> Check.of("line in;line delay 4 in;units 0 of 4;units 1 of 4").clear());
        due("17: never", NONE, () -> Check.of("line;units 0 of 4").clear());
        due("17: noise that is not sure", 5, () -> Check.of("line noise 99 in;units 0 of 4").clear());
        due("17: noise that is sure", NONE, () -> Check.of("line noise 100 in;units 0 of 4").clear());
        due("17: behind proving", 13, () -> Check.of("line proving;units 0 of 4").clear());
        CyclicLines x = Check.of("line noise 99 in;units 0 of 4");
        x.clear();
        due("17: no draw", 1, () -> x.seed(1));
        due("17: no tick", 0, () -> x.count(3));
        // 24 units, told again just in full rounds of one: 1 unit each 2 ticks.
        CyclicLines y = Check.of("line delay 1 units 1 in");
        for (int i = 0; i < 24; i++) {
            y.tell(0, 1);
        }
        due("17: within sixty", 49, () -> y.clear());
        CyclicLines z = Check.of("line delay 2 units 1 in");
        for (int i = 0; i < 15; i++) {
            z.tell(0, 1);
        }
        due("17: not within sixty", NONE, () -> z.clear());
        z.undo();
        due("17: within sixty again", 57, () -> z.clear());
        // What is bad at first delays all by as much.
        Check.law(z, "spoil 99 if tick<3;spoil 1 if tick<3");
        due("17: the sixtieth", 60, () -> z.clear());
        Check.law(z, "spoil 99 if tick<4;spoil 1 if tick<4");
        due("17: the sixty-first", NONE, () -> z.clear());
    }

    private void windows() {
        due("7: window without units", 1, () -> Check.of("line in").line(0, 19));
        due("7: window of one", 1, () -> Check.of("line in;units 0 of 5").line(0, 19));
        due("7: all come in sixty ticks", 1, () -> Check.of("line in;units 0 of 5 5 5 5 5 5").line(0, 19));
        // A delay of 4: a unit of a window of one in 8 ticks; of two in a third of ... by rounds.
        CyclicLines x = Check.of("line delay 4 octets 60 in");
        for (int i = 0; i < 24; i++) {
            x.tell(0, 1);
        }
        int window = x.line(0, 19);
        int best = 0;
        int least = 0;
        for (int w = 1; w <= 8; w++) {
            CyclicLines y = Check.of("line delay 4 units " + w + " octets 60 in");
            for (int i = 0; i < 24; i++) {
                y.tell(0, 1);
            }
            int taken = y.ahead(NONE, 60);
            if (taken > best) {
                best = taken;
                least = w;
            }
        }
        check.same("7: window by trying", least, window);
        check.same("7: window is not 1", true, window > 1);
        due("7: window leaves units most", 4, () -> x.line(0, 3));
        CyclicLines z = queueOf72();
        due("7: the widest window", 8, () -> z.line(0, 19));
        due("7: window of one that is out", 1, () -> Check.of("line in;line;units 0 of 1;units 1 of 4").line(1, 19));
    }

    private static CyclicLines queueOf72() {
        CyclicLines x = Check.of("line delay 4 octets 60 in;line");
        for (int i = 0; i < 3; i++) {
            x.start(1);
            for (int k = 0; k < 24; k++) {
                x.tell(1, 1);
            }
            x.shut(1);
        }
        return x;
    }

    private void splits() {
        CyclicLines x = Check.of("line in;line;line in;units 0 of 3 4;units 1 of 5 6 7;units 2 of 8");
        due("18: how much", 17, () -> x.split(NONE));
        // 3 4 5 6 7 8: 33 in all; none has 3 and 4 on one line; then 3 5 8 here, 4 6 7 there is the first.
        int[] on = {0, 2, 0, 2, 2, 0};
        for (int i = 0; i < on.length; i++) {
            int k = i;
            due("18: the one " + i, on[i], () -> x.split(k));
        }
        due("18: no more", NONE, () -> x.split(6));
        due("18: below", NONE, () -> x.split(-2));
        due("18: nobody in", NONE, () -> Check.of("line;units 0 of 4").split(NONE));
        due("18: nobody in, on none", NONE, () -> Check.of("line;units 0 of 4").split(0));
        due("18: nothing", 0, () -> Check.of("line;line in").split(NONE));
        due("18: nothing, on none", NONE, () -> Check.of("line in").split(0));
        due("18: nothing and nobody", 0, () -> Check.of("line").split(NONE));
        CyclicLines y = Check.of("line in;line in;units 1 of 9 9 9 9 9 9 9 9 1 1");
        due("18: eight alone", 36, () -> y.split(NONE));
        due("18: the eighth", 1, () -> y.split(7));
        due("18: the ninth", NONE, () -> y.split(8));
        CyclicLines z = Check.of("line in;line in;line in;line in;units 0 of 9 9 9 9 9 9 9;units 1 of 9");
        due("18: four lines", 18, () -> z.split(NONE));
        due("18: the first way", 0, () -> z.split(1));
        due("18: the last", 3, () -> z.split(7));
        z.ticks(1);
        due("18: of queues alone", 18, () -> z.split(NONE));
        due("18: six wait", NONE, () -> z.split(6));
    }

    private void takesOf(int due, int wants, int... numbers) {
        byte[] bytes = new byte[numbers.length];
        for (int i = 0; i < bytes.length; i++) {
            bytes[i] = (byte) numbers[i];
        }
        CyclicLines x = new CyclicLines();
        Check.tape(x, bytes);
        due("19: takes " + due, due, () -> x.takes(false));
        due("19: used up", 0, () -> x.takes(false));
        Check.tape(x, bytes);
        due("19: wants " + wants, wants, () -> x.takes(true));
    }

    private void takesNumbers() {
        takesOf(0, 0);
        takesOf(3, 3, 0, 1, 2);
        takesOf(2, 2, 0, 0, 0, 1, 0, 1, 3);
        takesOf(0, 0, 1, 2, 3, 15);
        takesOf(18, 2, 0, 1, 2, 3, 4, 5, 6, 7, 8, 9, 10, 11, 12, 13, 14, 15, 0, 0, 1);
        byte[] forty = new byte[40];
        for (int i = 0; i < 40; i++) {
            forty[i] = (byte) (i % 16);
        }
        CyclicLines x = new CyclicLines();
        Check.tape(x, forty);
        due("19: forty", 40, () -> x.takes(false));
        Check.tape(x, new byte[41]);
        due("19: forty-one", ARGUMENT, () -> x.takes(false));
        due("19: wrong is used up", 0, () -> x.takes(true));
        Check.tape(x, new byte[] {0, 16});
        due("19: sixteen", ARGUMENT, () -> x.takes(true));
        due("19: changes nothing", 0, () -> x.count(4) + x.count(10));
    }

    private void rowsAre(String what, byte[] rows, int period, int likely, int probe) {
        CyclicLines x = new CyclicLines();
        Check.tape(x, rows);
        due("20: " + what, period, () -> x.period());
        due("20: used up", 78, () -> x.period());
        Check.tape(x, rows);
        due("21: " + what, likely, () -> x.likely());
        Check.tape(x, rows);
        due("22: " + what, probe, () -> x.probe());
    }

    private void periods() {
        rowsAre("nothing", new byte[0], 78, 0, 0);
        // Bad at 3, 7, 11, 15 and at no other of 0 to 15: the period 4, the phase 3.
        byte[] rows = new byte[32];
        for (int i = 0; i < 16; i++) {
            rows[2 * i] = (byte) i;
            rows[2 * i + 1] = (byte) (i % 4 == 3 ? 1 : 0);
        }
        rowsAre("one fits", rows, 1, 12 * 3 + 3, NONE);
        rows[1] = 1;
        rowsAre("one fits with one wrong", rows, 1, 12 * 3 + 3, NONE);
        rows[3] = 1;
        rowsAre("none fits", rows, 0, NONE, NONE);
        // Bad at 0, and twice so: with one wrong row at most, all of phase 0 and no other.
        // The tick 12 is the first that six periods divide and six do not.
        rowsAre("twelve fit", new byte[] {0, 1, 0, 1}, 12, 0, 12);
        // Bad at 3, 7, 11 of 0 to 11: the period 8 with the phase 3 has one wrong row; 7 parts them.
        byte[] shorter = new byte[24];
        System.arraycopy(rows, 0, shorter, 0, 24);
        shorter[1] = 0;
        shorter[3] = 0;
        rowsAre("two fit", shorter, 2, 12 * 3 + 3, 7);
        due("20: odd", ARGUMENT, () -> rowsOf(1).period());
        due("20: a tick of 100", ARGUMENT, () -> rowsOf(100, 0).period());
        due("20: a bad of 2", ARGUMENT, () -> rowsOf(9, 2).period());
        due("20: forty bytes", 78 - 12, () -> rowsOf(new int[40]).period());
        due("20: above forty", ARGUMENT, () -> rowsOf(new int[42]).period());
        due("21: odd", ARGUMENT, () -> rowsOf(1, 0, 1).likely());
        due("21: a tick of 255", ARGUMENT, () -> rowsOf(255, 0).likely());
        due("21: above forty", ARGUMENT, () -> rowsOf(new int[41]).likely());
        due("22: odd", ARGUMENT, () -> rowsOf(1, 0, 1).probe());
        due("22: a bad of 255", ARGUMENT, () -> rowsOf(9, 255).probe());
        due("22: above forty", ARGUMENT, () -> rowsOf(new int[42]).probe());
        CyclicLines x = rowsOf(1);
        due("20: wrong", ARGUMENT, () -> x.period());
        due("20: wrong is used up", 78, () -> x.period());
        // With one wrong row allowed all fit; with none wrong those that do not hit 5.
        due("21: the fewest wrong", 12, () -> rowsOf(5, 0).likely());
        due("20: one wrong is none", 78, () -> rowsOf(5, 0).period());
        due("20: phase 5 is parted", 78 - 12, () -> rowsOf(5, 0, 5, 0).period());
    }

    private CyclicLines rowsOf(int... numbers) {
        byte[] bytes = new byte[numbers.length];
        for (int i = 0; i < bytes.length; i++) {
            bytes[i] = (byte) numbers[i];
        }
        CyclicLines x = new CyclicLines();
        Check.tape(x, bytes);
        return x;
    }

    private void probes() {
        // Bad at 12: it fits each period with the phase of 12. Tick 0 parts 1 2 3 4 6 12 from the others.
        due("22: even", 0, () -> rowsOf(12, 1, 12, 1).probe());
        due("22: one alone", NONE, () -> {
            byte[] rows = new byte[40];
            for (int i = 0; i < 20; i++) {
                rows[2 * i] = (byte) (i + 20);
                rows[2 * i + 1] = (byte) (i % 9 == 0 ? 1 : 0);
            }
            CyclicLines x = new CyclicLines();
            Check.tape(x, rows);
            return x.probe();
        });
    }

    private void pairsOfLines() {
        CyclicLines x = Check.of("line noise 10 in;line noise 80 in;line noise 30 in;line noise 60 in");
        // 0-1 and 2-3: 90 and 70; 0-2 and 1-3: 90 and 40; 0-3 and 1-2: 90 and 70.
        due("23: how much", 160, () -> x.pairs(NONE));
        int[] with = {1, 0, 3, 2};
        for (int i = 0; i < 4; i++) {
            int line = i;
            due("23: with " + i, with[i], () -> x.pairs(line));
        }
        due("23: no line", INDEX, () -> x.pairs(4));
        due("23: below none", INDEX, () -> x.pairs(-2));
        CyclicLines y = Check.of("line in;line noise 20 in;line;line noise 40 in");
        // One stays alone: the first such way has none ahead; but 0 makes 100.
        due("23: three", 100, () -> y.pairs(NONE));
        due("23: with the second", 1, () -> y.pairs(0));
        due("23: out", NONE, () -> y.pairs(2));
        due("23: alone", NONE, () -> y.pairs(3));
        CyclicLines z = Check.of("line noise 100 in;line noise 100 in;line noise 50 in");
        due("23: of like ways the first", 50, () -> z.pairs(NONE));
        due("23: none is the least", NONE, () -> z.pairs(0));
        due("23: then the others", 2, () -> z.pairs(1));
        due("23: just one in", 0, () -> Check.of("line in;line").pairs(NONE));
        due("23: worth nothing", NONE, () -> Check.of("line noise 100 in;line noise 100 in").pairs(0));
        due("23: proving is not in", 0, () -> Check.of("line in;line proving").pairs(NONE));
    }

    private void shares() {
        CyclicLines x = Check.of("line octets 60;line octets 30;line octets 20 in");
        // 60 | 30 30 | 20 20 20 | 15 15 | 12 | 10 10 10 ..: of several the least line.
        int[][] has = {{0, 0, 0}, {1, 0, 0}, {2, 0, 0}, {2, 1, 0}, {3, 1, 0}, {3, 1, 1}, {4, 1, 1}, {4, 2, 1}};
        for (int i = 0; i < has.length; i++) {
            for (int k = 0; k < 3; k++) {
                int n = i;
                int line = k;
                due("24: " + i + " " + k, has[i][k], () -> x.share(line, n));
            }
        }
        due("24: all of 99", 99, () -> x.share(0, 99) + x.share(1, 99) + x.share(2, 99));
        due("24: above", ARGUMENT, () -> x.share(0, 100));
        due("24: below", ARGUMENT, () -> x.share(0, -1));
        due("24: no line", INDEX, () -> x.share(3, -1));
        // Rounded down all are 0 in the end: then line 0 has them.
        CyclicLines y = Check.of("line octets 9;line octets 9");
        due("24: rounded down", 9 + (99 - 18), () -> y.share(0, 99));
    }

    private void restsOf() {
        CyclicLines x = Check.of("line in;line;units 0 of 5");
        due("25: one waits", 0, () -> x.rests(0));
        due("25: none waits", 8, () -> x.rests(1));
        x.ticks(1);
        due("25: it is kept", 8, () -> x.rests(0));
        due("25: no line", INDEX, () -> x.rests(2));
    }

    private void oddsOf() {
        CyclicLines x = Check.of("line noise 30;line;line noise 100;line noise 33");
        due("26: one", 3000, () -> x.odds(0, 1, 1));
        due("26: one of two", 5100, () -> x.odds(0, 2, 1));
        due("26: both", 900, () -> x.odds(0, 2, 2));
        due("26: none at least", 10000, () -> x.odds(0, 5, 0));
        due("26: more than are sent", 0, () -> x.odds(0, 2, 3));
        due("26: of none", 10000, () -> x.odds(0, 0, 0));
        due("26: one of none", 0, () -> x.odds(2, 0, 1));
        due("26: never", 0, () -> x.odds(1, 5, 1));
        due("26: ever", 10000, () -> x.odds(2, 5, 5));
        due("26: rounded down", 39, () -> x.odds(3, 5, 5));
        // 1 - 0.7^5 - 5 * 0.3 * 0.7^4 = 0.47178
        due("26: two of five", 4717, () -> x.odds(0, 5, 2));
        due("26: n above", ARGUMENT, () -> x.odds(0, 6, 0));
        due("26: n below", ARGUMENT, () -> x.odds(0, -1, 0));
        due("26: k above", ARGUMENT, () -> x.odds(0, 0, 6));
        due("26: k below", ARGUMENT, () -> x.odds(0, 0, -1));
        due("26: no line", INDEX, () -> x.odds(4, 9, 9));
        Check.law(x, "spoil 20 if filler");
        due("26: by the law", 5000, () -> x.odds(0, 1, 1));
    }

    private void mosts() {
        CyclicLines x = Check.of("line noise 3 in;line noise 9;line noise 9;units 2 of 5;units 1 of 2 3");
        due("27: busiest", 1, () -> x.most(0));
        due("27: loudest", 1, () -> x.most(1));
        due("27: fullest", 0, () -> x.most(2));
        due("27: what 3", NONESUCH, () -> x.most(3));
        due("27: what -1", NONESUCH, () -> x.most(-1));
        x.tell(2, 1);
        due("27: busier", 2, () -> x.most(0));
        CyclicLines y = Check.of("line in;line noise 100 in");
        y.ticks(4);
        due("27: fuller", 1, () -> y.most(2));
        due("27: what 3 of none", NONESUCH, () -> new CyclicLines().most(3));
        due("27: none", NONE, () -> new CyclicLines().most(0));
    }

    private void statesAndTwins() {
        CyclicLines x = Check.of("line in;line;line proving;line in");
        due("28: out", 2, () -> x.byState(0));
        due("28: proving", 4, () -> x.byState(1));
        due("28: in", 9, () -> x.byState(2));
        due("28: state 3", NONESUCH, () -> x.byState(3));
        due("28: state -1", NONESUCH, () -> x.byState(-1));
        due("29: all alike", 6, () -> x.twins());
        due("29: by noise", 1, () -> Check.of("line;line noise 1;line noise 1 in;line noise 1 delay 1").twins());
        due("29: two twos", 2, () -> Check.of("line;line noise 1;line noise 1 in;line units 2").twins());
        due("29: none", 0, () -> new CyclicLines().twins());
    }

    private void aheads() {
        CyclicLines x = Check.of("line noise 99 in;line noise 100 in;units 0 of 1 2 3;units 1 of 4");
        due("30: now", 0, () -> x.ahead(NONE, 0));
        due("30: its row", 3, () -> x.ahead(0, 0));
        due("30: what is not sure is good", 3, () -> x.ahead(NONE, 5));
        due("30: what was told has left", 1, () -> x.ahead(0, 6));
        due("30: the other one's comes", 1, () -> x.ahead(0, 7));
        due("30: what is sure is bad", 1, () -> x.ahead(1, 6));
        due("30: changed over", 0, () -> x.ahead(1, 7));
        due("30: all by another", 4, () -> x.ahead(NONE, 60));
        due("30: above", ARGUMENT, () -> x.ahead(NONE, 61));
        due("30: below", ARGUMENT, () -> x.ahead(0, -1));
        due("30: no line", INDEX, () -> x.ahead(2, 61));
        due("30: below none", INDEX, () -> x.ahead(-2, 1));
        due("30: nothing stays", 0, () -> x.count(3) + x.count(4) + x.count(9) + x.count(10));
        due("30: no draw", 1, () -> x.seed(1));
        x.ticks(1);
        due("30: what is in the air stays bad", x.air(0, 1, 3) == 1 ? 0 : 1, () -> x.ahead(NONE, 2));
    }

    private void trials() {
        CyclicLines x = Check.of("line noise 40 in;line noise 60 proving;line delay 1 in;units 0 of 1 2 3;units 2 of 4 5");
        for (int n : new int[] {0, 1, 7, 30, 60}) {
            CyclicLines y = Check.of("line noise 40 in;line noise 60 proving;line delay 1 in;units 0 of 1 2 3;units 2 of 4 5");
            if (n > 0) {
                y.ticks(n);
            }
            due("31: taken in " + n, y.count(4), () -> x.trial(n, false));
            due("31: in by then " + n, y.byState(2), () -> x.trial(n, true));
        }
        due("31: above", ARGUMENT, () -> x.trial(61, true));
        due("31: below", ARGUMENT, () -> x.trial(-1, false));
        due("31: nothing stays", 0, () -> x.count(3) + x.count(4) + x.count(9) + x.count(10));
        due("31: the seed stays", 1, () -> x.seed(1));
    }

    private void spans() {
        String text = "line noise 50 limit 9 in;units 0 of 1 2 3 4 5";
        int least = 99;
        int most = -1;
        for (int seed = 1; seed <= 6; seed++) {
            CyclicLines y = Check.of(text);
            y.seed(seed);
            int taken = y.ticks(9);
            least = taken < least ? taken : least;
            most = taken > most ? taken : most;
        }
        CyclicLines x = Check.of(text);
        x.seed(77);
        due("32: the least", least, () -> x.span(9, false));
        due("32: the greatest", most, () -> x.span(9, true));
        check.same("32: they differ", true, least < most);
        due("32: now", 0, () -> x.span(0, true));
        due("32: above", ARGUMENT, () -> x.span(61, true));
        due("32: below", ARGUMENT, () -> x.span(-1, false));
        due("32: the seed stays", 77, () -> x.seed(77));
        due("32: nothing stays", 0, () -> x.count(3) + x.count(4));
        CyclicLines z = Check.of("line delay 1 in;units 0 of 1 2 3 4 5");
        z.ticks(3);
        due("32: with what was taken", 5, () -> z.span(9, false));
    }

    private void logs() {
        CyclicLines x = Check.of("line delay 1 in;line delay 1 in;units 0 of 3;units 1 of 4 5;tick 50");
        due("33: none", 0, () -> x.led(0, false));
        due("33: no tick", NONE, () -> x.led(0, true));
        due("34: none", NONE, () -> x.log(0, 0));
        x.ticks(3);
        due("33: one", 1, () -> x.led(0, false));
        due("33: two", 2, () -> x.led(1, false));
        due("33: its tick", 51, () -> x.led(0, true));
        due("33: the latest tick", 52, () -> x.led(1, true));
        due("33: no line", INDEX, () -> x.led(2, true));
        int[][] rows = {{52, 1, 0, 2}, {51, 1, 0, 1}, {51, 0, 0, 0}, {NONE, NONE, NONE, NONE}};
        for (int i = 0; i < rows.length; i++) {
            for (int k = 0; k < 4; k++) {
                int ago = i;
                int what = k;
                due("34: " + i + " " + k, rows[i][k], () -> x.log(ago, what));
            }
        }
        due("34: below", NONE, () -> x.log(-1, 0));
        due("34: what 4", NONESUCH, () -> x.log(0, 4));
        due("34: what -1", NONESUCH, () -> x.log(9, -1));
    }

    private void seeds() {
        CyclicLines x = Check.of("line noise 50 delay 4 in");
        due("35: at first", 1, () -> x.seed(9));
        due("35: it was", 9, () -> x.seed(Integer.MIN_VALUE));
        due("35: any", Integer.MIN_VALUE, () -> x.seed(9));
        due("35: no act", 0, () -> x.count(10));
        x.ticks(1);
        due("35: it goes round", 9 * 1103515245 + 12345, () -> x.seed(0));
    }

    private void undoes() {
        CyclicLines x = Check.of("line noise 20 in;line;units 0 of 1 2");
        Check.law(x, "spoil 5");
        x.ticks(2);
        x.tell(1, 4);
        x.start(1);
        x.tune(0, 0, 30);
        x.shut(0);
        due("36: five acts", 5, () -> x.count(10));
        due("36: shut", true, x::undo);
        due("36: in again", 2, () -> x.line(0, 0));
        due("36: kept again", 2, () -> x.line(0, 7));
        due("36: no row", 0, () -> x.count(9));
        due("36: tune", true, x::undo);
        due("36: noise", 20, () -> x.line(0, 1));
        due("36: start", true, x::undo);
        due("36: out", 0, () -> x.line(1, 0));
        due("36: tell", true, x::undo);
        due("36: told", 2, () -> x.count(8));
        x.seed(1234);
        due("36: ticks", true, x::undo);
        due("36: tick", 0, () -> x.count(3));
        due("36: seed", 1, () -> x.seed(1));
        due("36: waits", 2, () -> x.line(0, 6));
        due("36: no more", false, x::undo);
        due("36: the law stays", 25, () -> x.chance(0));
        for (int i = 0; i < 13; i++) {
            x.tell(0, 1);
        }
        due("36: twelve", 12, () -> x.count(10));
        x.feed(0x00010203, 0, 0, 0, 0);
        x.image();
        for (int i = 0; i < 12; i++) {
            due("36: undone " + i, true, x::undo);
        }
        due("36: the first is forgotten", false, x::undo);
        due("36: its unit stays", 3, () -> x.count(8));
        due("36: the tape stays", 4, () -> x.takes(false));
        due("36: the image stays", true, x::back);
        due("36: as kept", 15, () -> x.count(8));
        due("36: none behind it", false, x::undo);
        x.tell(1, 1);
        Check.lines(x, "");
        due("36: none behind a text", 0, () -> x.count(10));
        x.tell(1, 1);
        Check.law(x, "");
        due("36: none behind a law", false, x::undo);
        x.tell(1, 1);
        due("36: a refused call", INDEX, () -> x.tell(7, 1));
        due("36: the latest is that told", true, x::undo);
        due("36: and no other", false, x::undo);
        due("36: in between", 17, () -> x.tell(1, 1));
        x.ticks(1);
        x.undo();
        x.ticks(3);
        due("36: two again", 2, () -> x.count(10));
        x.undo();
        x.undo();
        due("36: both undone", 17, () -> x.count(8));
        due("36: tick 0", 0, () -> x.count(3));
    }

    private void images() {
        CyclicLines x = Check.of("line noise 20 in;units 0 of 1 2");
        Check.law(x, "spoil 5");
        x.ticks(3);
        x.image();
        due("37: acts stay", 1, () -> x.count(10));
        int seed = x.seed(4);
        Check.law(x, "spoil 6;spoil 7");
        Check.lines(x, "line;tick 500");
        x.ticks(9);
        x.shut(0);
        due("4: wrong", ARGUMENT, () -> Check.lines(x, "line x"));
        x.feed(0x00010200, 0, 0, 0, 0);
        due("38: back", true, x::back);
        due("38: lines", 1, () -> x.count(0));
        due("38: texts", 1, () -> x.count(1));
        due("38: law", 1, () -> x.count(2));
        due("38: chance", 25, () -> x.chance(0));
        due("38: tick", 3, () -> x.count(3));
        due("38: state", 2, () -> x.line(0, 0));
        due("38: seed", seed, () -> x.seed(seed));
        due("38: acts are none", 0, () -> x.count(10));
        due("38: fault stays", 5, x::fault);
        due("38: the tape stays", 3, () -> x.takes(false));
        x.ticks(60);
        due("38: once more", true, x::back);
        due("38: tick again", 3, () -> x.count(3));
        CyclicLines y = new CyclicLines();
        y.image();
        Check.law(y, "");
        due("38: of no law", true, y::back);
        due("38: no law", NONE, () -> y.count(2));
        Check.lines(y, "line");
        y.image();
        y.start(0);
        y.back();
        due("37: the latest alone", 1, () -> y.count(0));
        due("37: as it was", 0, () -> y.line(0, 0));
    }

    private void counts() {
        CyclicLines x = Check.of("line in;line delay 1 in;units 0 of 1 2 3;units 1 of 5;tick 10");
        Check.lines(x, "units 0 of 4");
        Check.law(x, "worth 3;spoil 0");
        x.ticks(2);
        int[] counts = {2, 2, 2, 12, 1, 8, 2, 3, 5, 1, 1};
        for (int i = 0; i < counts.length; i++) {
            int what = i;
            due("39: " + i, counts[i], () -> x.count(what));
        }
        due("39: 11", NONE, () -> x.count(11));
        due("39: -1", NONE, () -> x.count(-1));
        due("39: far", NONE, () -> x.count(Integer.MIN_VALUE));
    }
}
