/** The edges of changeovers, of THE LOG, of UNDONE, of THE IMAGE and of what an object is used for. */
public final class KeepEdgeTest {
    private static final int NONE = CyclicLines.NONE;
    private static final String TWELVE = " of 1 2 3 4 5 6 7 8 9 1 2 3";

    private final Check check = new Check();

    public static void main(String[] args) {
        KeepEdgeTest t = new KeepEdgeTest();
        t.fewestUnits();
        t.noneIsIn();
        t.roomOf96();
        t.ownQueueOf96();
        t.changedOverByTicks();
        t.takenAreDropped();
        t.onceAndInOrder();
        t.starts();
        t.logOf60();
        t.logOfOthers();
        t.logRows();
        t.undoNone();
        t.undoTwelve();
        t.undoOfTexts();
        t.undoEach();
        t.undoByTicks();
        t.undoneAndAnew();
        t.imageNone();
        t.imageOne();
        t.fewerLines();
        t.serials();
        t.calls512();
        t.check.end("KeepEdgeTest");
    }

    private void same(String what, Object due, Object got) {
        check.same(what, due, got);
    }

    private void row(String name, CyclicLines x, int ago, int... due) {
        for (int i = 0; i < due.length; i++) {
            same(name + ": row " + ago + " what " + i, due[i], x.log(ago, i));
        }
    }

    /** SERIALS of QUEUE of a LINE are those, and no more. */
    private void queued(String name, CyclicLines x, int line, int... serials) {
        same(name + ": how many", serials.length, x.line(line, 6));
        int back = x.line(line, 7);
        for (int k = 0; k < serials.length; k++) {
            same(name + ": unit " + k, serials[k], x.unit(line, back + k, 0));
            same(name + ": no number " + k, NONE, x.unit(line, back + k, 2));
        }
        same(name + ": no more", NONE, x.unit(line, back + serials.length, 0));
    }

    // ---- changeovers ----

    /** The other LINE that is IN with the fewest UNITS in BACK and QUEUE, of several the least. */
    private void fewestUnits() {
        fewest(1, "line in;line in;line in;line in");
        fewest(2, "line in;line in;line in;line in;units 1 of 1");
        fewest(3, "line in;line in;line in;line in;units 1 of 1;units 2 of 1");
        fewest(1, "line in;line in;line in;line in;units 1 of 9;units 2 of 1;units 3 of 1");
        fewest(3, "line in;line in;line in;line in;units 1 of 1 1;units 2 of 1 1;units 3 of 9");
        fewest(2, "line in;line in;line in;line in;units 1 of 1 1;units 2 of 9;units 3 of 9");
        fewest(3, "line in;line;line proving;line in;units 3 of 1 1 1");
        fewest(2, "line in;line;line in;line proving;units 2 of 1 1 1");
        // The one that is shut is no other one, though it has the fewest.
        CyclicLines x = Check.of("line in;line in;units 1 of 1 1 1");
        same("14: none to go", 0, x.shut(0));
        x.tell(0, 5);
        same("14: to itself if none is in", 0, x.shut(1));
        queued("14: its own", x, 1, 0, 1, 2);
        queued("14: of the one that is out", x, 0, 3);
        // BACK and QUEUE count together: LINE 1 keeps three, and so many wait on LINE 2.
        for (int wait = 2; wait <= 4; wait++) {
            CyclicLines y = Check.of("line in;line delay 4 in;line in;units 1 of 1 1 1");
            y.ticks(3);
            for (int i = 0; i < wait; i++) {
                y.tell(2, 1);
            }
            y.tell(0, 7);
            same("14: three kept, waiting " + wait, 1, y.shut(0));
            same("14: to the one of three beside " + wait, wait < 3 ? 0 : 1, y.line(1, 6));
            same("14: to the one of " + wait, wait < 3 ? wait + 1 : wait, y.line(2, 6));
        }
    }

    private void fewest(int due, String lines) {
        CyclicLines x = Check.of(lines);
        int[] had = new int[4];
        for (int i = 0; i < 4; i++) {
            had[i] = x.line(i, 6);
        }
        x.tell(0, 4);
        same("14: one of '" + lines + "'", 1, x.shut(0));
        for (int i = 0; i < 4; i++) {
            same("14: line " + i + " of '" + lines + "'", (i == 0 ? 0 : had[i]) + (i == due ? 1 : 0), x.line(i, 6));
        }
        row("34: of '" + lines + "'", x, 0, 0, 0, 5, 1);
    }

    /** If there is none, it is its own QUEUE. */
    private void noneIsIn() {
        String[] others = {"", ";line", ";line proving", ";line;line proving;line"};
        for (String other : others) {
            CyclicLines x = Check.of("line delay 4 in" + other + ";units 0 of 1 2 3");
            x.ticks(2);
            same("14: none is in", 0, x.shut(0));
            queued("14: back, then queue", x, 0, 0, 1, 2);
            row("34: none went", x, 0, 2, 0, 5, 0);
            same("14: no back", 0, x.line(0, 7));
        }
        CyclicLines x = Check.of("line in");
        same("14: nothing to go on", 0, x.shut(0));
        queued("14: nothing", x, 0);
        CyclicLines y = Check.of("line in;line in");
        same("14: nothing to go over", 0, y.shut(0));
        row("34: nothing went", y, 0, 0, 0, 5, 0);
    }

    /** LINE 0 has so many in its QUEUE, which came over from LINE 1. */
    private static CyclicLines withQueue(String line, int units) {
        CyclicLines x = Check.of(line + ";line");
        for (int n = units; n > 0; n -= 24) {
            x.start(1);
            int texts = n / 12 < 2 ? n / 12 : 2;
            Check.lines(x, texts == 2 ? "units 1" + TWELVE + ";units 1" + TWELVE : texts == 1 ? "units 1" + TWELVE : "");
            for (int k = 12 * texts; k < n && k < 24; k++) {
                x.tell(1, 1 + k % 12 % 9);
            }
            x.shut(1);
        }
        return x;
    }

    /** A QUEUE has 96 at most by a changeover: those behind are lost. */
    private void roomOf96() {
        for (int had = 93; had <= 96; had++) {
            for (int more = 0; more <= 3; more++) {
                String name = "14: " + more + " to " + had;
                CyclicLines x = withQueue("line in", had);
                same(name + " had", had, x.line(0, 6));
                x.start(1);
                for (int i = 0; i < more; i++) {
                    x.tell(1, 9 - i);
                }
                int room = Math.min(more, 96 - had);
                same(name + " found room", room, x.shut(1));
                same(name + " has", had + room, x.line(0, 6));
                same(name + " none stays", 0, x.line(1, 6));
                same(name + " in all", had + room, x.count(6));
                same(name + " told", had + more, x.count(8));
                row(name, x, 0, 0, 1, 5, room);
                same(name + " the last", had + room - 1, x.unit(0, had + room - 1, 0));
                same(name + " its length", room > 0 ? 10 - room : 1 + (had - 1) % 24 % 12 % 9, x.unit(0, had + room - 1, 1));
                same(name + " no more", NONE, x.unit(0, had + room, 0));
            }
        }
        // BACK of the other LINE is no part of its QUEUE.
        CyclicLines y = withQueue("line delay 4 in", 96);
        y.ticks(1);
        y.start(1);
        y.tell(1, 9);
        y.tell(1, 8);
        same("14: one was sent", 1, y.shut(1));
        same("14: 96 wait", 96, y.line(0, 6));
        same("14: one is kept", 1, y.line(0, 7));
        same("8: the last", 9, y.unit(0, 96, 1));
    }

    /** What is left of BACK goes ahead of QUEUE, and those behind the 96th are lost. */
    private void ownQueueOf96() {
        for (int more = 1; more <= 4; more++) {
            String name = "14: own " + more;
            CyclicLines x = withQueue("line delay 4 in", 96);
            x.ticks(2);
            x.start(1);
            for (int i = 0; i < more; i++) {
                x.tell(1, 9);
            }
            // 94 wait then; two are kept, and neither was taken.
            int room = Math.min(more, 2);
            same(name + " over", room, x.shut(1));
            same(name + " waits", 94 + room, x.line(0, 6));
            same(name + " none is in", 0, x.shut(0));
            same(name + " has", 96, x.line(0, 6));
            row(name, x, 0, 2, 0, 5, 0);
            for (int k : new int[] {0, 1, 2, 3, 50, 94, 95}) {
                same(name + " unit " + k, k, x.unit(0, k, 0));
                same(name + " length " + k, 1 + k % 24 % 12 % 9, x.unit(0, k, 1));
            }
            same(name + " no more", NONE, x.unit(0, 96, 0));
        }
        CyclicLines y = withQueue("line delay 4 in", 95);
        y.ticks(2);
        same("14: 95", 0, y.shut(0));
        same("14: none is lost", 95, y.line(0, 6));
        same("14: the last of 95", 94, y.unit(0, 94, 0));
    }

    /** One goes OUT within a TICK: what comes over to a LINE behind it is sent in that TICK, to one ahead of it is not. */
    private void changedOverByTicks() {
        CyclicLines x = Check.of("line noise 100 delay 1 limit 1 in;line delay 1 in;units 0 of 5");
        x.ticks(2);
        same("11: not yet out", 2, x.line(0, 0));
        x.ticks(1);
        same("11: out", 0, x.line(0, 0));
        same("11: sent at once", 1, x.line(1, 7));
        same("11: it waits no more", 0, x.line(1, 6));
        row("34: over", x, 0, 2, 0, 5, 1);
        row("34: out", x, 1, 2, 0, 2, 2);
        CyclicLines y = Check.of("line delay 1 in;line noise 100 delay 1 limit 1 in;units 1 of 5");
        y.ticks(3);
        same("11: it came over", 1, y.line(0, 6));
        same("11: it waits", 0, y.line(0, 7));
        y.ticks(1);
        same("11: and is sent", 1, y.line(0, 7));
        // Both go OUT in one TICK: the first to the second, and this one has none that is IN.
        CyclicLines z = Check.of("line noise 100 delay 1 limit 1 in;line noise 100 delay 1 limit 1 in;units 0 of 5;units 1 of 6");
        z.ticks(3);
        same("11: both are out", 3, z.byState(0));
        queued("11: none", z, 0);
        queued("11: its own first", z, 1, 1, 0);
        row("34: the second", z, 0, 2, 1, 5, 0);
        row("34: it is out", z, 1, 2, 1, 2, 2);
        row("34: the first", z, 2, 2, 0, 5, 1);
        row("34: that is out", z, 3, 2, 0, 2, 2);
    }

    /** The far end tells what it expects: what it took is dropped, though nothing came back yet. */
    private void takenAreDropped() {
        for (int ticks = 1; ticks <= 8; ticks++) {
            CyclicLines x = Check.of("line delay 3 in;line in;units 0 of 1 2 3");
            x.ticks(ticks);
            int taken = Math.max(0, Math.min(3, ticks - 3));
            same("14: taken in " + ticks, taken, x.count(4));
            same("14: left in " + ticks, 3 - taken, x.shut(0));
            for (int k = 0; k < 3 - taken; k++) {
                same("14: which in " + ticks, taken + k, x.unit(1, k, 0));
            }
            same("14: no more in " + ticks, NONE, x.unit(1, 3 - taken, 0));
        }
    }

    private void onceAndInOrder() {
        CyclicLines x = Check.of("line delay 4 in;line delay 3 in;units 0 of 1 2 3 4 5 6");
        x.ticks(5);
        x.shut(0);
        x.start(0);
        x.ticks(4);
        x.shut(1);
        x.start(1);
        x.ticks(60);
        same("34: six rows of taken ones", 6, x.count(4));
        int serial = 5;
        for (int ago = 0; ago < x.count(9); ago++) {
            if (x.log(ago, 2) == 0) {
                same("34: in order", serial, x.log(ago, 3));
                serial--;
            }
        }
        same("34: each once", NONE, serial);
    }

    private void starts() {
        CyclicLines x = Check.of("line;line;line;line in");
        same("13: one", 1, x.start(0));
        same("13: two", 2, x.start(1));
        same("13: three", 3, x.start(2));
        x.shut(3);
        same("13: four", 4, x.start(3));
        x.shut(1);
        same("13: four again", 4, x.start(1));
        x.ticks(8);
        same("13: all are in", 15, x.byState(2));
        x.shut(2);
        same("13: one that is proving", 1, x.start(2));
    }

    // ---- the log ----

    /** One LINE whose changeovers are rows. */
    private static void rows(CyclicLines x, int line, int n) {
        for (int i = 0; i < n; i++) {
            if (x.line(line, 0) == 0) {
                x.start(line);
            }
            x.shut(line);
        }
    }

    /** The latest 60: the 61st takes the place of the first. */
    private void logOf60() {
        CyclicLines x = Check.of("line delay 1 units 8 octets 60 in;units 0" + TWELVE + ";units 0" + TWELVE);
        x.ticks(30);
        Check.lines(x, "units 0" + TWELVE + ";units 0" + TWELVE);
        x.ticks(30);
        same("39: 48 rows", 48, x.count(9));
        Check.lines(x, "units 0" + TWELVE);
        x.ticks(12);
        same("39: 59 rows", 59, x.count(9));
        same("34: the oldest of 59", 0, x.log(58, 3));
        same("34: no sixtieth", NONE, x.log(59, 3));
        same("33: of 59", 59, x.led(0, false));
        x.ticks(1);
        same("39: 60 rows", 60, x.count(9));
        same("34: the oldest of 60", 0, x.log(59, 3));
        same("34: the latest of 60", 59, x.log(0, 3));
        same("34: no 61st", NONE, x.log(60, 3));
        same("34: nothing of none", NONE, x.log(60, 0));
        same("33: of 60", 60, x.led(0, false));
        x.tell(0, 1);
        x.ticks(2);
        same("39: 60 at most", 60, x.count(9));
        same("34: the oldest now", 1, x.log(59, 3));
        same("34: the latest now", 60, x.log(0, 3));
        same("34: still no 61st", NONE, x.log(60, 3));
        same("33: of 60 at most", 60, x.led(0, false));
        same("33: the latest tick", x.log(0, 0), x.led(0, true));
        x.undo();
        x.undo();
        same("36: the oldest again", 0, x.log(59, 3));
        same("36: the latest again", 59, x.log(0, 3));
        same("34: below", NONE, x.log(-1, 0));
        same("34: far below", NONE, x.log(Integer.MIN_VALUE, 3));
        same("34: far", NONE, x.log(Integer.MAX_VALUE, 0));
    }

    /** LED is of the rows that are there: one that left counts no more. */
    private void logOfOthers() {
        CyclicLines x = Check.of("line in;line");
        same("33: no row", 0, x.led(0, false));
        same("33: no tick", NONE, x.led(0, true));
        rows(x, 0, 1);
        same("33: at tick 0", 0, x.led(0, true));
        x.ticks(3);
        rows(x, 1, 58);
        same("33: 58", 58, x.led(1, false));
        same("33: one", 1, x.led(0, false));
        rows(x, 1, 1);
        same("33: one of 60", 1, x.led(0, false));
        same("33: its tick", 0, x.led(0, true));
        same("34: the last", 0, x.log(59, 1));
        rows(x, 1, 1);
        same("33: it left", 0, x.led(0, false));
        same("33: no tick any more", NONE, x.led(0, true));
        same("33: all others", 60, x.led(1, false));
        same("33: their tick", 3, x.led(1, true));
        x.undo();
        same("36: it is there again", 1, x.led(0, false));
        same("36: and no row more", 59, x.led(1, false));
    }

    /** In the order in which it comes about: taken ahead of forced, out ahead of changed over, LINE by LINE. */
    private void logRows() {
        CyclicLines x = Check.of("line delay 1 units 1 in;line delay 1 units 1 in;units 0 of 1 2;units 1 of 3 4");
        x.ticks(2);
        same("39: four", 4, x.count(9));
        row("34: forced on 1", x, 0, 1, 1, 1, 1);
        row("34: taken on 1", x, 1, 1, 1, 0, 2);
        row("34: forced on 0", x, 2, 1, 0, 1, 1);
        row("34: taken on 0", x, 3, 1, 0, 0, 0);
        row("34: no more", x, 4, NONE, NONE, NONE, NONE);
        // A text that tells a LINE IN is no row, starting one and tuning one neither.
        CyclicLines y = Check.of("line in;line proving;line");
        y.start(2);
        y.tune(0, 0, 5);
        y.tell(0, 5);
        same("39: none", 0, y.count(9));
    }

    // ---- undone ----

    private void undoNone() {
        CyclicLines x = new CyclicLines();
        same("36: none of a new one", false, x.undo());
        x.image();
        x.seed(5);
        Check.lines(x, "line in");
        same("36: none are acts", 0, x.count(10));
        same("36: none to undo", false, x.undo());
        same("36: nothing happened", 5, x.seed(1));
        check.due("11: refused", IllegalArgumentException.class, () -> x.ticks(0));
        check.due("13: refused", IllegalStateException.class, () -> x.start(0));
        same("36: a refused call is none", false, x.undo());
        x.ticks(60);
        same("36: one call is one", 1, x.count(10));
        same("36: it is undone", true, x.undo());
        same("36: all of it", 0, x.count(3));
        same("36: once", false, x.undo());
        same("39: none left", 0, x.count(10));
    }

    /** Twelve are remembered; the one that went as the thirteenth came is no more. */
    private void undoTwelve() {
        for (int acts = 11; acts <= 26; acts++) {
            CyclicLines x = Check.of("line;units 0 of 9");
            for (int i = 1; i <= acts; i++) {
                x.tune(0, 0, i);
                same("39: acts " + i, Math.min(i, 12), x.count(10));
            }
            int left = acts;
            for (int i = 0; i < 12 && i < acts; i++) {
                same("36: of " + acts, true, x.undo());
                left--;
                same("36: as ahead of it, of " + acts, left, x.line(0, 1));
                same("39: left of " + acts, Math.min(acts, 12) - 1 - i, x.count(10));
            }
            same("36: no more of " + acts, false, x.undo());
            same("36: the first ones stay, of " + acts, Math.max(0, acts - 12), x.line(0, 1));
        }
    }

    /** Behind a text and behind going back none are remembered; a refused one, or keeping an image, forgets none. */
    private void undoOfTexts() {
        CyclicLines x = Check.of("line in");
        x.tell(0, 1);
        x.tell(0, 2);
        check.due("4: wrong", IllegalArgumentException.class, () -> Check.lines(x, "line 5"));
        check.due("5: wrong", IllegalArgumentException.class, () -> Check.law(x, "spoil"));
        same("36: two", 2, x.count(10));
        x.image();
        same("36: still two", 2, x.count(10));
        same("36: one", true, x.undo());
        Check.law(x, "spoil 1");
        same("36: none behind a law", 0, x.count(10));
        same("36: none", false, x.undo());
        same("36: one unit", 1, x.count(8));
        x.tell(0, 3);
        Check.lines(x, "");
        same("36: none behind a text", false, x.undo());
        x.tell(0, 4);
        x.back();
        same("36: none behind going back", 0, x.count(10));
        same("36: none of these", false, x.undo());
        same("38: as kept", 2, x.count(8));
        for (int i = 2; i <= 12; i++) {
            Check.lines(x, "");
        }
        x.tell(0, 5);
        check.due("4: there are 12", UnsupportedOperationException.class, () -> Check.lines(x, ""));
        same("36: forgets none", true, x.undo());
    }

    /** A call on an object whose answer is not looked at. */
    private interface On {
        Object call(CyclicLines x);
    }

    /** Each kind of act is one, though nothing changes by it; all is as ahead of it. */
    private void undoEach() {
        On[] acts = {x -> x.ticks(1), x -> x.ticks(60), x -> x.tell(2, 9), x -> x.tell(0, 1), x -> x.start(2),
            x -> x.shut(0), x -> x.shut(1), x -> x.tune(0, 0, 99), x -> x.tune(1, 1, 8), x -> x.tune(2, 2, 9),
            x -> x.tune(0, 3, 1), x -> x.tune(0, 0, 50), x -> x.tune(1, 1, 4), x -> x.tune(2, 2, 30), x -> x.tune(0, 3, 9)};
        for (int i = 0; i < acts.length; i++) {
            CyclicLines x = Check.of("line noise 50 limit 9 in;line noise 50 proving;line;units 0 of 1 2 3 4 5");
            Check.law(x, "spoil 9 if repeat;worth 5");
            x.seed(77);
            x.ticks(5);
            String was = Look.at(x);
            acts[i].call(x);
            same("39: acts with " + i, 2, x.count(10));
            same("36: the act " + i, true, x.undo());
            same("36: all as ahead of " + i, was, Look.at(x));
            same("36: the one before " + i, true, x.undo());
            same("36: the seed ahead of it " + i, 77, x.seed(77));
            same("36: no more " + i, false, x.undo());
        }
        // A seed that was told in between is as it was ahead of the act, too.
        CyclicLines z = Check.of("line in");
        z.tell(0, 1);
        z.seed(99);
        z.undo();
        same("36: the seed", 1, z.seed(4));
    }

    /** Of LINE 0 all that a TICK can change, and what is of all LINES. */
    private static String told(CyclicLines x) {
        StringBuilder all = new StringBuilder();
        all.append(x.line(0, 0));
        for (int what = 6; what <= 16; what++) {
            all.append(' ').append(x.line(0, what));
        }
        for (int what : new int[] {3, 4, 5, 9}) {
            all.append(' ').append(x.count(what));
        }
        int seed = x.seed(3);
        x.seed(seed);
        return all.append(" seed ").append(seed).append(" row ").append(x.log(0, 3)).toString();
    }

    /** Twelve TICKS one by one, and back one by one: HAND, rounds, the monitor, what is proved. */
    private void undoByTicks() {
        String[] lines = {"line delay 4 units 3 in;units 0 of 1 2 3 4 5 6", "line delay 1 in;units 0 of 1 2 3 4",
            "line noise 60 delay 1 limit 3 in;units 0 of 1 2 3", "line noise 50 delay 1 proving;units 0 of 1",
            "line delay 4 units 8 in;units 0 of 1 2 3", "line noise 100 delay 2 proving"};
        for (String text : lines) {
            CyclicLines x = Check.of(text);
            Check.law(x, "worth 7 if repeat");
            String[] was = new String[12];
            for (int i = 0; i < 12; i++) {
                was[i] = told(x);
                x.ticks(1);
            }
            for (int i = 11; i >= 0; i--) {
                same("36: '" + text + "' " + i, true, x.undo());
                same("36: '" + text + "' as ahead of " + i, was[i], told(x));
            }
            same("36: '" + text + "' no more", false, x.undo());
        }
    }

    private void undoneAndAnew() {
        CyclicLines x = Check.of("line");
        for (int i = 0; i < 15; i++) {
            x.tell(0, 1 + i % 9);
        }
        for (int i = 0; i < 5; i++) {
            x.undo();
        }
        same("39: seven", 7, x.count(10));
        same("12: serials again", 10, x.tell(0, 7));
        for (int i = 11; i < 16; i++) {
            same("12: on", i, x.tell(0, 8));
        }
        same("39: twelve", 12, x.count(10));
        for (int i = 0; i < 12; i++) {
            same("36: " + i, true, x.undo());
        }
        same("36: no more", false, x.undo());
        same("36: three, then one more went", 4, x.count(8));
    }

    // ---- the image ----

    private void imageNone() {
        CyclicLines x = Check.of("line in;units 0 of 1");
        x.tell(0, 2);
        String was = Look.at(x);
        same("38: none was kept", false, x.back());
        same("38: nothing happens", was, Look.at(x));
        same("38: acts stay", true, x.undo());
        CyclicLines y = new CyclicLines();
        y.image();
        Check.lines(y, "line in;units 0 of 3;tick 9");
        same("38: of a new one", true, y.back());
        same("38: as new", Look.at(new CyclicLines()), Look.at(y));
    }

    /** There is one: the latest; it stays, however often one goes back to it. */
    private void imageOne() {
        CyclicLines x = Check.of("line in;units 0 of 1 2 3");
        x.image();
        x.ticks(2);
        x.image();
        String kept = Look.at(x).replaceFirst("(\\S+ ){11}seed", "seed");
        for (int i = 0; i < 3; i++) {
            Check.law(x, "worth 9");
            Check.lines(x, "line;tick 50");
            x.ticks(5 + i);
            same("38: back " + i, true, x.back());
            same("38: as kept " + i, kept, Look.at(x).replaceFirst("(\\S+ ){11}seed", "seed"));
            same("38: no law " + i, NONE, x.count(2));
            same("38: one text " + i, 1, x.count(1));
            same("38: tick " + i, 2, x.count(3));
            same("39: acts " + i, 0, x.count(10));
        }
        // THE IMAGE outlives what is undone.
        x.ticks(1);
        x.image();
        x.undo();
        same("36: undone", 2, x.count(3));
        x.back();
        same("38: as kept behind the act", 3, x.count(3));
        // Texts are counted as they were: from twelve back to eleven there is room for one.
        CyclicLines y = new CyclicLines();
        for (int i = 0; i < 11; i++) {
            Check.lines(y, "");
        }
        y.image();
        same("4: the twelfth", 12, Check.lines(y, ""));
        check.due("4: no thirteenth", UnsupportedOperationException.class, () -> Check.lines(y, ""));
        y.back();
        same("4: the twelfth again", 12, Check.lines(y, "line"));
    }

    /** Going back to fewer LINES: those that were told since are none any more, whatever they had. */
    private void fewerLines() {
        CyclicLines x = Check.of("line noise 7 delay 4 in;units 0 of 1 2 3");
        CyclicLines y = Check.of("line noise 7 delay 4 in;units 0 of 1 2 3");
        x.ticks(2);
        y.ticks(2);
        x.image();
        y.image();
        Check.lines(x, "line noise 100 delay 4 limit 20 in;line noise 7 delay 4 in;units 1 of 9 9 9 9;units 2 of 9 9");
        x.ticks(9);
        x.back();
        y.back();
        same("38: one line", 1, x.count(0));
        check.due("38: no second one", IndexOutOfBoundsException.class, () -> x.line(1, 0));
        for (int round = 0; round < 2; round++) {
            same("38: all " + round, Look.at(y), Look.at(x));
            same("28: in " + round, 1, x.byState(2));
            same("29: twins " + round, 0, x.twins());
            same("7: part " + round, 100, x.line(0, 20));
            same("7: window " + round, y.line(0, 19), x.line(0, 19));
            same("17: clear " + round, y.clear(), x.clear());
            same("18: split " + round, y.split(NONE), x.split(NONE));
            same("18: no unit of others " + round, NONE, x.split(1));
            same("23: pairs " + round, 0, x.pairs(NONE));
            same("24: share " + round, 99, x.share(0, 99));
            for (int what = 0; what < 3; what++) {
                same("27: most " + what + " " + round, 0, x.most(what));
            }
            same("30: ahead " + round, y.ahead(NONE, 60), x.ahead(NONE, 60));
            same("31: trial " + round, y.trial(60, false), x.trial(60, false));
            same("31: trial in " + round, y.trial(60, true), x.trial(60, true));
            same("32: span " + round, y.span(60, true), x.span(60, true));
            x.ticks(1);
            y.ticks(1);
        }
        same("14: none else is in", 0, x.shut(0));
        same("14: its own queue", 3, x.line(0, 6));
        same("4: a second one anew", 2, Check.lines(x, "line"));
        same("4: as it begins", 0, x.line(1, 6) + x.line(1, 7) + x.line(1, 1) + x.line(1, 0) + x.air(1, 1, 0));
    }

    private void serials() {
        CyclicLines x = Check.of("line;line;units 1 of 5 6");
        same("12: behind those of texts", 2, x.tell(0, 1));
        same("12: one for all lines", 3, x.tell(1, 9));
        check.due("12: refused", IllegalArgumentException.class, () -> x.tell(1, 0));
        check.due("4: refused", IllegalArgumentException.class, () -> Check.lines(x, "units 0 of 1 2 x"));
        same("12: none is used up", 4, x.tell(0, 1));
        Check.lines(x, "units 0 of 7;units 1 of 8");
        same("8: of the text", 5, x.unit(0, 2, 0));
        same("8: in its order", 6, x.unit(1, 3, 0));
        same("39: told", 7, x.count(8));
    }

    /** An object is used for 512 calls; the last is as good as the first. */
    private void calls512() {
        CyclicLines x = new CyclicLines();
        int calls = 0;
        Check.lines(x, "line delay 1 in");
        calls += 3;
        int serial = 0;
        while (calls + 4 <= 511) {
            same("12: serial", serial, x.tell(0, 1 + serial % 9));
            same("11: taken", serial == 0 ? 0 : 1, x.ticks(1));
            same("10: told", serial % 16, x.reply(0, 0));
            same("7: next", (serial + 1) % 16, x.line(0, 10));
            serial++;
            calls += 4;
        }
        same("39: taken in all", serial - 1, x.count(4));
    }
}
