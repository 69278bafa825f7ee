/** The edges of what comes about by TICKS: ==== 2. of the document. */
public final class TickEdgeTest {
    private static final int NONE = CyclicLines.NONE;
    private static final int STATE = 0;
    private static final int QUEUE = 6;
    private static final int BACK = 7;
    private static final int HAND = 8;
    private static final int FORCED = 9;
    private static final int NEXT = 10;
    private static final int EXPECT = 11;
    private static final int BUCKET = 12;
    private static final int GOOD = 13;
    private static final int PROVED = 14;
    private static final int BAD = 15;
    private static final int TRIES = 16;

    private final Check check = new Check();

    public static void main(String[] args) {
        TickEdgeTest t = new TickEdgeTest();
        t.ticksOfACall();
        t.places();
        t.goodEighth();
        t.bucketLeaks();
        t.badEndsGood();
        t.limits();
        t.limitTuned();
        t.numbersGoRound();
        t.allLeaveAtTheWrap();
        t.unitsMost();
        t.unitsMostTuned();
        t.octetsMost();
        t.roundOfEight();
        t.roundOfOne();
        t.handIsAsManyLess();
        t.handIsNoughtAtLeast();
        t.handGoesRound();
        t.drawsBelowChance();
        t.drawsAlways();
        t.seedGoesRound();
        t.provedEighth();
        t.provedBad();
        t.provedTries();
        t.provedBucket();
        t.tickMost();
        t.worthMost();
        t.worthOfTheEdges();
        t.worthOfLengths();
        t.repeats();
        t.repeatsOfOthers();
        t.forcedFromTheFirst();
        t.shutWithinARound();
        t.check.end("TickEdgeTest");
    }

    private void same(String what, Object due, Object got) {
        check.same(what, due, got);
    }

    /** What is told of LINE 0, as pairs: what, and how much. */
    private void told(String name, CyclicLines x, int... pairs) {
        for (int i = 0; i + 1 < pairs.length; i += 2) {
            same(name + ": what " + pairs[i], pairs[i + 1], x.line(0, pairs[i]));
        }
    }

    private void row(String name, CyclicLines x, int ago, int... due) {
        for (int i = 0; i < due.length; i++) {
            same(name + ": row " + ago + " what " + i, due[i], x.log(ago, i));
        }
    }

    /** All that is sent is bad while that holds. */
    private static CyclicLines badWhile(String lines, String condition) {
        CyclicLines x = Check.of(lines);
        Check.law(x, "spoil 99 if " + condition + ";spoil 1 if " + condition);
        return x;
    }

    private static CyclicLines of(String line, int units, int length) {
        CyclicLines x = Check.of(line);
        for (int i = 0; i < units; i++) {
            x.tell(0, length);
        }
        return x;
    }

    private void ticksOfACall() {
        CyclicLines x = Check.of("line in");
        check.due("11: 0", IllegalArgumentException.class, () -> x.ticks(0));
        check.due("11: 61", IllegalArgumentException.class, () -> x.ticks(61));
        same("11: none passed", 0, x.count(3));
        x.ticks(1);
        same("11: 1", 1, x.count(3));
        x.ticks(60);
        same("11: 60", 61, x.count(3));
        x.undo();
        same("11: one act", 1, x.count(3));
        // Just what was taken in these TICKS is answered, not all.
        CyclicLines y = of("line delay 1 in", 2, 5);
        same("11: first sent", 0, y.ticks(1));
        same("11: first taken", 1, y.ticks(1));
        same("11: second taken", 1, y.ticks(1));
        same("11: no more", 0, y.ticks(60));
        same("11: both", 2, y.count(4));
    }

    /** AIR and RETURN have as many places as DELAY; what is sent arrives as many TICKS later. */
    private void places() {
        for (int delay = 1; delay <= 4; delay++) {
            CyclicLines x = of("line delay " + delay + " in", 1, 5);
            String name = "9, 10: delay " + delay;
            for (int k = 0; k < delay; k++) {
                same(name + " nothing", 0, x.air(0, k, 0));
                same(name + " no reply", NONE, x.reply(0, k));
            }
            same(name + " no place more", NONE, x.air(0, delay, 0));
            same(name + " no place below", NONE, x.air(0, -1, 0));
            x.ticks(1);
            same(name + " in the last place", 2, x.air(0, delay - 1, 0));
            same(name + " told in the last place", 0, x.reply(0, delay - 1));
            same(name + " no place behind", NONE, x.air(0, delay, 0));
            same(name + " no reply behind", NONE, x.reply(0, delay));
            same(name + " not yet", 0, x.ticks(delay - 1 > 0 ? delay - 1 : 1) - (delay == 1 ? 1 : 0));
            if (delay > 1) {
                same(name + " in the first place", 0, x.air(0, 0, 1));
                same(name + " taken", 1, x.ticks(1));
            }
            told(name + " kept till it is told", x, EXPECT, 1, BACK, 1, GOOD, 1);
            same(name + " told", 1, x.reply(0, delay - 1));
            if (delay > 1) {
                x.ticks(delay - 1);
                told(name + " not come back yet", x, BACK, 1);
            }
            x.ticks(1);
            told(name + " come back", x, BACK, 0, NEXT, 1);
            same(name + " a filler then", 1, x.air(0, delay - 1, 0));
        }
    }

    /** If nothing arrived GOOD stays; by the 8th one it is 0, and BUCKET is 0 at least. */
    private void goodEighth() {
        for (int delay = 1; delay <= 4; delay++) {
            String name = "11: good, delay " + delay;
            CyclicLines x = Check.of("line delay " + delay + " in");
            x.ticks(delay);
            told(name + ", nothing arrived", x, GOOD, 0, BUCKET, 0);
            for (int good = 1; good <= 7; good++) {
                x.ticks(1);
                told(name, x, GOOD, good, BUCKET, 0);
            }
            x.ticks(1);
            told(name + ", the 8th", x, GOOD, 0, BUCKET, 0);
            x.ticks(1);
            told(name + ", the 9th", x, GOOD, 1, BUCKET, 0);
        }
    }

    private void bucketLeaks() {
        // What is sent at 0 and 1 arrives bad at 1 and 2.
        CyclicLines x = badWhile("line delay 1 in", "tick<2");
        x.ticks(1);
        told("11: nothing bad yet", x, BUCKET, 0);
        x.ticks(1);
        told("11: the first bad one", x, BUCKET, 1, GOOD, 0);
        x.ticks(1);
        told("11: the second bad one", x, BUCKET, 2, GOOD, 0);
        x.ticks(7);
        told("11: seven good ones", x, BUCKET, 2, GOOD, 7);
        x.ticks(1);
        told("11: the eighth", x, BUCKET, 1, GOOD, 0);
        x.ticks(7);
        told("11: fifteen", x, BUCKET, 1, GOOD, 7);
        x.ticks(1);
        told("11: sixteen", x, BUCKET, 0, GOOD, 0);
        x.ticks(8);
        told("11: 0 at least", x, BUCKET, 0, GOOD, 0);
    }

    private void badEndsGood() {
        // What is sent at 7 arrives at 8, behind seven good ones.
        CyclicLines x = badWhile("line delay 1 in", "tick>6 and tick<8");
        x.ticks(8);
        told("11: seven good ones", x, BUCKET, 0, GOOD, 7);
        x.ticks(1);
        told("11: a bad one", x, BUCKET, 1, GOOD, 0);
        x.ticks(7);
        told("11: seven again", x, BUCKET, 1, GOOD, 7);
        x.ticks(1);
        told("11: the eighth leaks", x, BUCKET, 0, GOOD, 0);
    }

    /** BUCKET as many as LIMIT is no reason, one more is. */
    private void limits() {
        for (int limit = 1; limit <= 20; limit++) {
            String name = "11: limit " + limit;
            CyclicLines x = Check.of("line noise 100 delay 1 limit " + limit + " in");
            x.ticks(limit + 1);
            told(name, x, STATE, 2, BUCKET, limit);
            same(name + " no row", 0, x.count(9));
            x.ticks(1);
            told(name + " one more", x, STATE, 0, BUCKET, 0, GOOD, 0);
            row(name, x, 0, limit + 1, 0, 5, 0);
            row(name, x, 1, limit + 1, 0, 2, limit + 1);
            same(name + " two rows", 2, x.count(9));
            same(name + " nothing in the air", 0, x.air(0, 0, 0));
            same(name + " nothing told", NONE, x.reply(0, 0));
        }
    }

    private void limitTuned() {
        CyclicLines x = Check.of("line noise 100 delay 1 limit 20 in");
        x.ticks(6);
        told("15: bucket", x, BUCKET, 5, STATE, 2);
        x.tune(0, 0, 0);
        x.tune(0, 3, 6);
        // One bad one is in the air yet.
        x.ticks(1);
        told("15: as many as the limit", x, BUCKET, 6, STATE, 2);
        x.tune(0, 3, 5);
        told("15: no tick, no change", x, BUCKET, 6, STATE, 2);
        x.ticks(1);
        told("15: above the limit, though it was good", x, STATE, 0, BUCKET, 0);
        row("15: out", x, 1, 7, 0, 2, 6);
    }

    /** NEXT and EXPECT are 0 behind 15; by NUMBERS on both sides of it UNITS leave BACK. */
    private void numbersGoRound() {
        CyclicLines x = of("line delay 2 units 8 octets 60 in", 24, 1);
        x.ticks(15);
        told("11: fifteen sent", x, NEXT, 15, EXPECT, 13);
        x.ticks(1);
        told("11: sixteen sent", x, NEXT, 0, EXPECT, 14);
        x.ticks(1);
        told("11: seventeen sent", x, NEXT, 1, EXPECT, 15);
        int[][] numbers = {{14, 15, 0, 1}, {15, 0, 1, 2}, {0, 1, 2, 3}, {1, 2, 3, 4}};
        int[] expect = {0, 1, 2, 3};
        for (int i = 0; i < 4; i++) {
            same("11: taken round " + i, 1, x.ticks(1));
            told("11: round " + i, x, NEXT, 2 + i, EXPECT, expect[i], BACK, 4);
            for (int k = 0; k < 4; k++) {
                same("8: number " + k + " round " + i, numbers[i][k], x.unit(0, k, 2));
                same("8: serial " + k + " round " + i, 14 + i + k, x.unit(0, k, 0));
            }
            same("10: told round " + i, expect[i], x.reply(0, 1));
            same("9: number sent round " + i, 1 + i, x.air(0, 1, 2));
        }
        same("11: all at last", 24 - 19, x.ticks(20));
        told("11: none kept", x, BACK, 0, NEXT, 8, EXPECT, 8);
    }

    /** All leave, if what comes back is NEXT, 0 behind 15, too. */
    private void allLeaveAtTheWrap() {
        for (int units = 15; units <= 17; units++) {
            CyclicLines x = of("line delay 1 units 8 octets 60 in", units, 1);
            // The last is sent at units - 1, taken a tick later, and told back another one later.
            x.ticks(units + 1);
            told("11: last of " + units, x, BACK, 1, NEXT, units % 16, EXPECT, units % 16);
            x.ticks(1);
            told("11: none of " + units, x, BACK, 0);
            CyclicLines y = of("line delay 1 units 8 octets 60 in", units, 1);
            y.ticks(units + 1);
            same("14: it was taken " + units, 0, y.shut(0));
            told("14: nothing goes on " + units, y, QUEUE, 0, BACK, 0);
            CyclicLines z = of("line delay 1 units 8 octets 60 in", units, 1);
            z.ticks(units);
            z.shut(0);
            told("14: it was not taken " + units, z, QUEUE, 1, BACK, 0);
            same("14: which " + units, units - 1, z.unit(0, 0, 0));
        }
    }

    /** BACK has fewer than UNITS MOST, or a round is forced. */
    private void unitsMost() {
        for (int most = 1; most <= 7; most++) {
            String name = "11: units " + most;
            CyclicLines x = of("line delay 4 units " + most + " octets 60 in", 12, 1);
            x.ticks(most);
            told(name, x, BACK, most, QUEUE, 12 - most, FORCED, 0, HAND, 0, NEXT, most);
            x.ticks(1);
            told(name + " no more", x, BACK, most, QUEUE, 12 - most, NEXT, most);
            told(name + " forced", x, FORCED, most > 1 ? 1 : 0, HAND, most > 1 ? 1 : 0);
            row(name, x, 0, most, 0, 1, most);
            same(name + " the first again", 0, x.air(0, 3, 1));
        }
        // The first of eight is told back as the ninth is due.
        CyclicLines x = of("line delay 4 units 8 octets 60 in", 12, 1);
        x.ticks(8);
        told("11: units 8", x, BACK, 8, QUEUE, 4, FORCED, 0);
        x.ticks(1);
        told("11: the ninth", x, BACK, 8, QUEUE, 3, FORCED, 0, NEXT, 9);
        same("8: the first left", 1, x.unit(0, 0, 0));
        same("34: all rows are of taken ones", 5, x.count(4));
        same("34: none is forced", 5, x.count(9));
    }

    /** UNITS MOST may be tuned below what BACK has, and back. */
    private void unitsMostTuned() {
        CyclicLines x = of("line delay 4 units 3 in", 6, 1);
        x.ticks(2);
        x.tune(0, 1, 2);
        x.ticks(1);
        told("15: two are two", x, BACK, 2, FORCED, 1);
        CyclicLines y = of("line delay 4 units 3 in", 6, 1);
        y.ticks(3);
        y.tune(0, 1, 4);
        y.ticks(1);
        told("15: three are fewer than four", y, BACK, 4, FORCED, 0);
        y.tune(0, 1, 1);
        same("7: the first of back comes", 0, y.line(0, 18));
        y.ticks(1);
        told("15: four are more than one", y, BACK, 4, FORCED, 1, HAND, 1);
        y.tune(0, 1, 8);
        same("7: a round goes on", 1, y.line(0, 18));
        y.ticks(3);
        told("15: the round is over", y, BACK, 4, FORCED, 0, HAND, 0);
        y.ticks(1);
        // At tick 8 the first is told back, and the fifth is sent.
        told("15: the fifth comes", y, BACK, 4, NEXT, 5);
    }

    /** LENGTHS are OCTETS MOST at most together. */
    private void octetsMost() {
        for (int most = 9; most <= 60; most++) {
            CyclicLines x = of("line delay 4 units 8 octets " + most + " in", 8, 9);
            x.ticks(most / 9);
            told("11: octets " + most, x, BACK, most / 9, FORCED, 0);
            same("34: none is forced", 0, x.led(0, false) - x.count(4));
            x.ticks(7 - most / 9);
            told("11: octets are too many for " + most, x, BACK, most / 9, NEXT, most / 9);
        }
        for (int last = 5; last <= 7; last++) {
            CyclicLines x = Check.of("line delay 4 units 8 octets 60 in;units 0 of 9 9 9 9 9 9 " + last);
            same("7: comes of 54", 0, x.line(0, 18));
            x.ticks(6);
            told("11: 54", x, BACK, 6, 17, 54 + last);
            same("7: comes of 54 and " + last, last <= 6 ? 6 : 0, x.line(0, 18));
            x.ticks(1);
            told("11: 54 and " + last, x, BACK, last <= 6 ? 7 : 6, FORCED, last <= 6 ? 0 : 1);
        }
        // OCTETS MOST tuned to just what would be, and to one less.
        CyclicLines y = Check.of("line delay 4 octets 60 in;units 0 of 5 6");
        y.ticks(1);
        y.tune(0, 2, 10);
        same("7: 11 are above 10", 0, y.line(0, 18));
        y.tune(0, 2, 11);
        same("7: 11 are 11", 1, y.line(0, 18));
    }

    private void roundOfEight() {
        CyclicLines x = badWhile("line delay 4 units 8 octets 60 limit 20 in;units 0 of 1 2 3 4 5 6 7 8 9", "tick<40");
        x.ticks(8);
        told("11: eight kept", x, BACK, 8, QUEUE, 1, FORCED, 0, HAND, 0);
        for (int k = 0; k < 8; k++) {
            x.ticks(1);
            same("11: sent of the round " + k, k, x.air(0, 3, 1));
            told("11: of the round " + k, x, FORCED, k < 7 ? 1 : 0, HAND, (k + 1) % 8);
            same("34: one row", 1, x.count(9));
        }
        row("34: forced", x, 0, 8, 0, 1, 8);
        x.ticks(1);
        same("34: once more", 2, x.count(9));
        row("34: forced again", x, 0, 16, 0, 1, 8);
        told("11: from the first", x, FORCED, 1, HAND, 1);
    }

    private void roundOfOne() {
        CyclicLines x = of("line delay 4 units 1 in", 2, 5);
        x.ticks(1);
        for (int k = 0; k < 3; k++) {
            x.ticks(1);
            told("11: a round of one " + k, x, FORCED, 0, HAND, 0, BACK, 1, QUEUE, 1);
            same("34: each is forced", k + 1, x.count(9));
            row("34: of one", x, 0, 1 + k, 0, 1, 1);
        }
    }

    private void handIsAsManyLess() {
        CyclicLines x = of("line delay 4 in", 1, 1);
        // At 0 the first is sent, at 1 again; at 2, 3, 4 three others; at 5, 6, 7 the first three of four again.
        x.ticks(2);
        told("11: round of the one", x, HAND, 0, BACK, 1);
        x.tell(0, 2);
        x.tell(0, 3);
        x.tell(0, 4);
        x.ticks(3);
        told("11: four kept", x, HAND, 0, BACK, 4, EXPECT, 1);
        x.ticks(3);
        told("11: three repeated", x, HAND, 3, BACK, 4, FORCED, 0);
        // At 8 the first leaves, which was taken at 4: HAND is 2 then, and 3 of 3, 0, once that was sent.
        same("7: if nothing came back", 3, x.line(0, 18));
        x.ticks(1);
        same("11: the same is at hand", 3, x.air(0, 3, 1));
        told("11: behind the last", x, HAND, 0, BACK, 3);
    }

    private void handIsNoughtAtLeast() {
        CyclicLines x = of("line delay 4 in", 2, 1);
        // At 2 to 7 both again, three times; at 8 the first leaves, with HAND 0.
        x.ticks(8);
        told("11: hand ahead", x, HAND, 0, BACK, 2);
        x.ticks(1);
        same("11: the second is at hand", 1, x.air(0, 3, 1));
        told("11: one kept", x, HAND, 0, BACK, 1);
        x.ticks(1);
        told("11: none kept", x, HAND, 0, BACK, 0, FORCED, 0);
        same("11: a filler", 1, x.air(0, 3, 0));
    }

    /** A UNIT that comes into BACK leaves HAND; behind the last HAND is 0. */
    private void handGoesRound() {
        CyclicLines x = of("line delay 4 units 8 in", 3, 1);
        x.ticks(3);
        int[] hands = {1, 2, 0, 1};
        for (int i = 0; i < 2; i++) {
            x.ticks(1);
            told("11: idle " + i, x, HAND, hands[i], FORCED, 0);
        }
        x.tell(0, 1);
        x.ticks(1);
        told("11: a new one leaves it", x, HAND, 2, BACK, 4);
        x.ticks(1);
        same("11: the third", 2, x.air(0, 3, 1));
        told("11: behind the third of four", x, HAND, 3, BACK, 4);
    }

    private static int draw(int seed) {
        return (seed * 1103515245 + 12345 >> 16 & 32767) % 100;
    }

    /** A SEED whose first DRAW is that modulo 100. */
    private static int seedFor(int modulo, boolean negative) {
        int seed = 0;
        while (draw(seed) != modulo || seed * 1103515245 + 12345 < 0 != negative) {
            seed++;
        }
        return seed;
    }

    /** Bad, if DRAW modulo 100 is below CHANCE, not if it is CHANCE. */
    private void drawsBelowChance() {
        for (int modulo : new int[] {0, 1, 49, 50, 98, 99}) {
            for (int chance = Math.max(0, modulo - 1); chance <= Math.min(100, modulo + 2); chance++) {
                for (int sign = 0; sign < 2; sign++) {
                    CyclicLines x = Check.of("line noise " + chance + " delay 1 in");
                    x.seed(seedFor(modulo, sign == 1));
                    x.ticks(1);
                    same("11: draw " + modulo + " chance " + chance, modulo < chance ? 1 : 0, x.air(0, 0, 3));
                }
            }
        }
    }

    /** Each LINE that is not OUT draws, whatever its CHANCE is, what it sends and in what it ends. */
    private void drawsAlways() {
        draws("line", 1, 0);
        draws("line;line;line noise 100;line noise 50", 5, 0);
        draws("line in", 7, 7);
        draws("line noise 100 limit 20 in", 7, 7);
        draws("line noise 50 proving;line;line in;line noise 1 in", 4, 12);
        draws("line in;units 0 of 1 2 3", 9, 9);
        draws("line proving", 9, 9);
        // It goes OUT at its sixth TICK, and draws there the last time.
        draws("line noise 100 delay 1 limit 4 in", 20, 6);
    }

    private void draws(String lines, int ticks, int due) {
        CyclicLines x = Check.of(lines);
        x.ticks(ticks);
        int seed = 1;
        for (int i = 0; i < due; i++) {
            seed = seed * 1103515245 + 12345;
        }
        same("11: draws of '" + lines + "'", seed, x.seed(0));
    }

    private void seedGoesRound() {
        int[] seeds = {0, 1, -1, Integer.MAX_VALUE, Integer.MIN_VALUE, 123456789};
        for (int seed : seeds) {
            CyclicLines x = Check.of("line in");
            same("35: it was 1", 1, x.seed(seed));
            same("35: it was that", seed, x.seed(seed));
            x.ticks(1);
            long wide = (1103515245L * seed + 12345) & 0xffffffffL;
            same("35: it goes round", (int) wide, x.seed(seed));
        }
    }

    private void provedEighth() {
        CyclicLines x = Check.of("line proving;units 0 of 5");
        for (int n = 1; n <= 7; n++) {
            x.ticks(1);
            told("11: proved " + n, x, STATE, 1, PROVED, n, BAD, 0, TRIES, 0, QUEUE, 1);
            same("11: a filler " + n, 1, x.air(0, 1, 0));
            same("10: nothing told " + n, NONE, x.reply(0, 1));
        }
        same("34: no row", 0, x.count(9));
        x.ticks(1);
        told("11: the eighth", x, STATE, 2, PROVED, 0, BAD, 0, TRIES, 0, NEXT, 0, EXPECT, 0, HAND, 0, GOOD, 0, QUEUE, 1);
        row("34: in", x, 0, 7, 0, 4, 0);
        same("9: nothing in the air", 0, x.air(0, 0, 0) + x.air(0, 1, 0));
        same("10: nothing told", -2, x.reply(0, 0) + x.reply(0, 1));
        same("7: comes now", 0, x.line(0, 18));
        x.ticks(1);
        told("11: sent", x, BACK, 1, NEXT, 1);
    }

    /** BAD counts what arrived within the eight; one is not too many, two are. */
    private void provedBad() {
        // With a DELAY of 1 what is sent at 0 to 6 arrives within the first eight.
        provedBad("tick<1", 2, 1);
        provedBad("tick>5 and tick<7", 2, 1);
        provedBad("tick>5 and tick<8", 2, 1);
        provedBad("tick>6", 2, 0);
        provedBad("tick<2", 1, 2);
        provedBad("tick<1 or tick>5", 1, 2);
        provedBad("tick<7", 1, 7);
    }

    private void provedBad(String when, int state, int bad) {
        CyclicLines x = badWhile("line delay 1 proving", when);
        x.ticks(7);
        told("11: seven, bad if " + when, x, STATE, 1, PROVED, 7, TRIES, 0);
        x.ticks(1);
        told("11: eight, bad if " + when, x, STATE, state, PROVED, 0, BAD, 0, TRIES, state == 2 ? 0 : 1);
        same("34: rows if " + when, state == 2 ? 1 : 0, x.count(9));
        if (state == 2) {
            row("34: bad as it was, if " + when, x, 0, 7, 0, 4, bad);
        }
        same("9: in the air if " + when, state == 2 ? 0 : 1, x.air(0, 0, 0));
    }

    private void provedTries() {
        // Two bad ones arrive in each try: the third is the last.
        CyclicLines x = badWhile("line delay 1 proving", "tick<2 or tick>7 and tick<10 or tick>15 and tick<18");
        x.ticks(8);
        told("11: once", x, STATE, 1, TRIES, 1, PROVED, 0, BAD, 0);
        x.ticks(7);
        told("11: not yet twice", x, STATE, 1, TRIES, 1, PROVED, 7, BAD, 2);
        x.ticks(1);
        told("11: twice", x, STATE, 1, TRIES, 2, PROVED, 0, BAD, 0);
        x.ticks(7);
        told("11: not yet thrice", x, STATE, 1, TRIES, 2, PROVED, 7, BAD, 2);
        same("34: no row", 0, x.count(9));
        x.ticks(1);
        told("11: thrice", x, STATE, 0, TRIES, 0, PROVED, 0, BAD, 0);
        row("34: out", x, 0, 23, 0, 3, 2);
        same("34: that alone", 1, x.count(9));
        // Two bad ones in the first and in the second try alone.
        CyclicLines y = badWhile("line delay 1 proving", "tick<2 or tick>7 and tick<10");
        y.ticks(23);
        told("11: one to go", y, STATE, 1, TRIES, 2, PROVED, 7, BAD, 0);
        y.ticks(1);
        told("11: in by the third", y, STATE, 2, TRIES, 0, PROVED, 0);
        row("34: in", y, 0, 23, 0, 4, 0);
        // Started anew it has all of its tries.
        x.start(0);
        told("13: begins", x, STATE, 1, TRIES, 0, PROVED, 0, BAD, 0, BUCKET, 0, GOOD, 0);
        x.ticks(8);
        told("13: in", x, STATE, 2);
    }

    /** One that is PROVING is not taken out by its BUCKET, and has 0 once it is IN. */
    private void provedBucket() {
        CyclicLines x = Check.of("line noise 100 delay 1 limit 1 proving");
        x.ticks(8);
        told("11: above the limit", x, STATE, 1, BUCKET, 7, TRIES, 1);
        x.tune(0, 0, 0);
        x.ticks(1);
        told("11: the last bad one", x, BUCKET, 8, BAD, 1);
        x.ticks(7);
        told("11: in with one bad", x, STATE, 2, BUCKET, 0, GOOD, 0);
        row("34: in", x, 0, 15, 0, 4, 1);
        x.ticks(2);
        told("11: it stays in", x, STATE, 2, BUCKET, 0, GOOD, 1);
    }

    private void tickMost() {
        CyclicLines x = Check.of("tick 999;line delay 1 in");
        for (int i = 0; i < 149; i++) {
            x.ticks(60);
        }
        same("11: 9939", 9939, x.count(3));
        x.ticks(59);
        same("11: 9998", 9998, x.count(3));
        x.ticks(1);
        same("11: 9999", 9999, x.count(3));
        x.tell(0, 1);
        x.ticks(1);
        same("11: 9999 at most", 9999, x.count(3));
        x.ticks(60);
        same("11: and goes on", 9999, x.count(3));
        row("34: as it is", x, 0, 9999, 0, 0, 0);
        Check.law(x, "spoil 7 if tick>98");
        same("16: modulo 100", 7, x.chance(0));
        check.same("30: ahead", 1, x.ahead(NONE, 60));
        Check.lines(x, "tick 0");
        same("4: told anew", 0, x.count(3));
    }

    private void worthMost() {
        // A UNIT is worth 9 and 12 times 99.
        CyclicLines x = Check.of("line delay 1 units 8 octets 60 in");
        Check.law(x, "worth 99" + ";worth 99".repeat(11));
        for (int n : new int[] {24, 24, 24, 11}) {
            for (int i = 0; i < n; i++) {
                x.tell(0, 9);
            }
            x.ticks(40);
        }
        same("11: 83 are worth 1197", 99351, x.count(5));
        worthOfOne(x, 9, "worth 44" + ";worth 99".repeat(6), 99998);
        worthOfOne(x, 1, "", 99999);
        x.undo();
        same("36: worth is undone", 99998, x.count(5));
        x.ticks(4);
        worthOfOne(x, 1, "", 99999);
        worthOfOne(x, 9, "worth 99", 99999);
        CyclicLines y = Check.of("line delay 1 units 8 octets 60 in");
        y.image();
        same("38: worth", true, y.back());
        same("38: of nothing", 0, y.count(5));
        same("11: none is lost by the bound", 87, x.count(4));
    }

    private void worthOfOne(CyclicLines x, int length, String law, int due) {
        Check.law(x, law);
        x.tell(0, length);
        same("11: taken", 1, x.ticks(4));
        same("11: worth " + due, due, x.count(5));
    }

    /** The law sees all behind what (a) made of BUCKET and GOOD, ahead of EXPECT and what comes back. */
    private void worthOfTheEdges() {
        // Taken at 2, as the first that was told (at 0) comes back; kept are two, as the second was sent.
        worth("line delay 2 in;units 0 of 1 1 1 1", 3, "kept>1 and kept<3", 1);
        worth("line delay 2 in;units 0 of 1 1 1 1", 3, "queue>1 and queue<3", 1);
        worth("line delay 2 in;units 0 of 1 1 1 1", 3, "tick>1 and tick<3", 1);
        worth("line delay 2 in;tick 97;units 0 of 1", 3, "tick>98", 1);
        worth("line delay 2 in;tick 98;units 0 of 1", 3, "tick<1", 1);
        worth("line delay 2 in;units 0 of 9", 3, "length>8", 1);
        worth("line delay 2 in;units 0 of 9", 3, "length>9", 0);
        worth("line;line;line;line in;units 3 of 1", 3, "line>2", 1);
        worth("line delay 4 in;units 0 of 1", 5, "delay>3", 1);
        worth("line delay 2 in;units 0 of 1", 3, "filler or forced", 0);
        // All of three are taken within a forced round: the round ends behind the one that is sent at 5.
        worth("line delay 3 units 3 in;units 0 of 1 1 1 1", 6, "forced", 2);
    }

    private void worth(String lines, int ticks, String condition, int due) {
        CyclicLines x = Check.of(lines);
        Check.law(x, "worth 50 if " + condition);
        x.ticks(ticks);
        int lengths = 0;
        for (int ago = 0; ago < x.count(9); ago++) {
            lengths += x.log(ago, 2) == 0 ? 1 : 0;
        }
        int nine = lines.contains("of 9") ? 9 : 1;
        same("5: '" + condition + "' of '" + lines + "'", 50 * due + nine * lengths, x.count(5));
    }

    /** Repeated is what was sent already since it came into this BACK, over a changeover, too. */
    private void repeats() {
        CyclicLines x = badWhile("line delay 4 in;line delay 4 in;units 0 of 5", "repeat");
        x.ticks(2);
        same("16: first", 0, x.air(0, 2, 3));
        same("16: again", 1, x.air(0, 3, 3));
        same("14: goes on", 1, x.shut(0));
        x.ticks(2);
        same("16: first on the other line", 0, x.air(1, 2, 3));
        same("16: it", 0, x.air(1, 2, 1));
        same("16: again there", 1, x.air(1, 3, 3));
        same("14: back to its own queue", 0, x.shut(1));
        x.start(1);
        x.ticks(8);
        x.ticks(2);
        same("16: first in this back", 0, x.air(1, 2, 3));
        same("16: again in this back", 1, x.air(1, 3, 3));
        // How often it was sent is undone, and gone back to.
        CyclicLines y = badWhile("line delay 4 in;units 0 of 5", "repeat");
        y.ticks(1);
        y.image();
        y.ticks(1);
        same("36: undone", true, y.undo());
        y.ticks(1);
        same("36: it was sent once", 1, y.air(0, 3, 3));
        y.undo();
        y.undo();
        y.ticks(1);
        same("36: it was not sent", 0, y.air(0, 3, 3));
        y.back();
        y.ticks(1);
        same("38: it was sent once", 1, y.air(0, 3, 3));
    }

    /** The LENGTH is that of what arrived, not of what comes behind it, also of what is gone back to. */
    private void worthOfLengths() {
        CyclicLines x = Check.of("line delay 2 in;units 0 of 9 1 9 1");
        Check.law(x, "worth 50 if length>8");
        int[] due = {59, 60, 119, 120};
        x.ticks(2);
        for (int worth : due) {
            x.ticks(1);
            same("5: worth by lengths " + worth, worth, x.count(5));
        }
        CyclicLines y = Check.of("line delay 2 in;units 0 of 9");
        Check.law(y, "worth 50 if length>8");
        y.ticks(1);
        y.image();
        y.tell(0, 1);
        y.ticks(1);
        y.back();
        y.ticks(2);
        same("38: the length in the air", 59, y.count(5));
        CyclicLines z = Check.of("line delay 2 in;units 0 of 9");
        Check.law(z, "worth 50 if length>8");
        z.ticks(1);
        z.tell(0, 1);
        z.ticks(1);
        z.undo();
        z.undo();
        z.ticks(2);
        same("36: the length in the air", 59, z.count(5));
    }

    /** How often a UNIT was sent goes with it, as others leave BACK ahead of it. */
    private void repeatsOfOthers() {
        CyclicLines x = Check.of("line delay 2 in;units 0 of 1");
        Check.law(x, "worth 50 if repeat");
        // The first is sent at 0, 1 and 2, taken at 2 and told back at 4.
        x.ticks(3);
        same("5: sent more than once", 51, x.count(5));
        x.tell(0, 2);
        x.ticks(1);
        x.tell(0, 3);
        x.ticks(1);
        same("11: the first left", 2, x.line(0, BACK));
        x.ticks(1);
        same("5: sent once", 53, x.count(5));
        x.ticks(1);
        same("5: sent once, too", 56, x.count(5));
        // Sent twice, undone, and then sent once.
        CyclicLines y = Check.of("line delay 2 in;units 0 of 1");
        Check.law(y, "worth 50 if repeat");
        y.ticks(1);
        y.image();
        y.ticks(1);
        y.undo();
        y.tell(0, 2);
        y.ticks(2);
        same("36: sent once", 1, y.count(5));
        y.back();
        y.ticks(2);
        same("38: sent twice", 51, y.count(5));
        y.back();
        y.tell(0, 2);
        y.ticks(2);
        same("38: sent once", 1, y.count(5));
    }

    /** A round that is forced begins at the first of BACK, wherever HAND was. */
    private void forcedFromTheFirst() {
        CyclicLines x = of("line delay 4 units 3 in", 3, 1);
        x.ticks(5);
        told("11: two were repeated", x, HAND, 2, FORCED, 0, BACK, 3);
        same("7: the third is at hand", 2, x.line(0, 18));
        x.tell(0, 1);
        same("7: but one waits", 0, x.line(0, 18));
        x.ticks(1);
        same("11: from the first on", 0, x.air(0, 3, 1));
        told("11: forced", x, HAND, 1, FORCED, 1, BACK, 3);
        x.ticks(1);
        told("11: on", x, HAND, 2, FORCED, 1);
        x.ticks(1);
        told("11: over", x, HAND, 0, FORCED, 0);
    }

    /** CHANGED OVER within a round, by an act and by its BUCKET: HAND is 0 and it is not FORCED. */
    private void shutWithinARound() {
        CyclicLines x = of("line delay 4 units 3 in", 4, 1);
        x.ticks(5);
        told("11: within a round", x, HAND, 2, FORCED, 1, NEXT, 3, EXPECT, 1);
        x.shut(0);
        told("14: begins", x, HAND, 0, FORCED, 0, NEXT, 0, EXPECT, 0, GOOD, 0, BACK, 0, QUEUE, 3);
        same("9: nothing in the air", 0, x.air(0, 0, 0) + x.air(0, 3, 0));
        same("10: nothing told", -2, x.reply(0, 0) + x.reply(0, 3));
        x.undo();
        told("36: within that round", x, HAND, 2, FORCED, 1, NEXT, 3, EXPECT, 1, GOOD, 1, BACK, 3, QUEUE, 1);
        // Bad is all, and the second bad one arrives at 5, within the round that began at 3.
        CyclicLines y = of("line noise 100 delay 4 units 3 limit 1 in", 4, 1);
        y.ticks(5);
        told("11: one bad one", y, HAND, 2, FORCED, 1, BUCKET, 1);
        y.ticks(1);
        told("11: out", y, STATE, 0, HAND, 0, FORCED, 0, NEXT, 0, BUCKET, 0, BACK, 0, QUEUE, 4);
        // Idle, too, HAND is 0 behind it.
        CyclicLines z = of("line delay 4 in", 3, 1);
        z.ticks(5);
        told("11: idle", z, HAND, 2, FORCED, 0);
        z.shut(0);
        told("14: begins behind idle rounds", z, HAND, 0);
        z.start(0);
        z.ticks(8);
        told("11: in with hand 0", z, STATE, 2, HAND, 0);
    }
}
