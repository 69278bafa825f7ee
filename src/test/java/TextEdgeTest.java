/** The edges of the TAPE (2, 3), of texts of THE LINES (4), of THE LAW (5) and of fault() (6). */
public final class TextEdgeTest {
    private static final Class<?> ARGUMENT = IllegalArgumentException.class;
    private static final int NONE = CyclicLines.NONE;

    private final Check check = new Check();

    public static void main(String[] args) {
        TextEdgeTest t = new TextEdgeTest();
        t.feeds();
        t.feedBytes();
        t.ends();
        t.emptyTexts();
        t.longestTexts();
        t.numbersOfALine();
        t.digits();
        t.partsOfALine();
        t.linesMost();
        t.statementsMost();
        t.unitsOf();
        t.unitsMost();
        t.queueOf24();
        t.ticks();
        t.words();
        t.blanks();
        t.strangeBytes();
        t.moreMustCome();
        t.lawLinesMost();
        t.lawNumbers();
        t.deep();
        t.lawWords();
        t.comparisons();
        t.chanceBounds();
        t.faults();
        t.check.end("TextEdgeTest");
    }

    private void same(String what, Object due, Object got) {
        check.same(what, due, got);
    }

    /** A text of THE LINES behind others that is right. */
    private CyclicLines right(String text, String... ahead) {
        CyclicLines x = new CyclicLines();
        for (String one : ahead) {
            Check.lines(x, one);
        }
        check.due("4: '" + text + "'", ahead.length + 1, () -> Check.lines(x, text));
        same("6: of '" + text + "'", NONE, x.fault());
        return x;
    }

    /** A text of THE LINES behind others that is wrong at that byte: nothing of it stays. */
    private void wrong(int at, String text, String... ahead) {
        CyclicLines x = new CyclicLines();
        for (String one : ahead) {
            Check.lines(x, one);
        }
        String was = Look.at(x);
        check.due("4: '" + text + "'", ARGUMENT, () -> Check.lines(x, text));
        same("6: of '" + text + "'", at, x.fault());
        same("4: nothing of '" + text + "'", was, Look.at(x));
        same("4: '" + text + "' is used up", 20, x.feed(0, 0, 0, 0, 0));
    }

    private CyclicLines lawRight(int lines, String text) {
        CyclicLines x = Check.of("line noise 1");
        Check.law(x, "spoil 4");
        check.due("5: '" + text + "'", lines, () -> Check.law(x, text));
        same("6: of '" + text + "'", NONE, x.fault());
        same("5: lines of '" + text + "'", lines, x.count(2));
        return x;
    }

    private void lawWrong(int at, String text) {
        CyclicLines x = Check.of("line noise 1");
        Check.law(x, "spoil 4");
        check.due("5: '" + text + "'", ARGUMENT, () -> Check.law(x, text));
        same("6: of '" + text + "'", at, x.fault());
        same("5: not '" + text + "'", 5, x.chance(0));
        same("5: lines of the one before '" + text + "'", 1, x.count(2));
        same("5: '" + text + "' is used up", 20, x.feed(0, 0, 0, 0, 0));
    }

    private void holds(boolean due, String lines, String condition) {
        CyclicLines x = Check.of(lines);
        Check.law(x, "spoil 7 if " + condition);
        same("5: '" + condition + "' of '" + lines + "'", due ? 7 : 0, x.chance(0));
    }

    // ---- the tape ----

    private void feeds() {
        CyclicLines x = new CyclicLines();
        for (int i = 1; i <= 19; i++) {
            same("2: feed " + i, 20 * i, x.feed(0, 0, 0, 0, 0));
        }
        same("2: 400", 400, x.feed(0, 0, 0, 0, 0));
        same("2: 420 would be too many", NONE, x.feed(0, 0, 0, 0, 0));
        same("3: none came", false, x.end(401));
        same("3: 400 are there", true, x.end(400));
        for (int n = 399; n >= 381; n--) {
            same("3: end " + n, true, x.end(n));
            same("2: behind " + n, NONE, x.feed(0, 0, 0, 0, 0));
        }
        same("3: end 380", true, x.end(380));
        same("2: behind 380", 400, x.feed(0, 0, 0, 0, 0));
        // What does not come leaves what is there.
        CyclicLines y = new CyclicLines();
        Check.tape(y, "tick 7" + " ".repeat(375));
        int[] other = Check.packed(Check.bytes("line;line;line;line;"), 0);
        same("2: behind 381", NONE, y.feed(other[0], other[1], other[2], other[3], other[4]));
        same("4: as it was", 1, y.lines());
        same("4: tick", 7, y.count(3));
        same("2: used up", 20, y.feed(0, 0, 0, 0, 0));
    }

    /** Of each of the five numbers the highest byte is the first; the sign is a bit like others. */
    private void feedBytes() {
        for (int place = 0; place < 20; place++) {
            CyclicLines x = new CyclicLines();
            int[] n = {0x20202020, 0x20202020, 0x20202020, 0x20202020, 0x20202020};
            int shift = 24 - 8 * (place % 4);
            n[place / 4] = n[place / 4] & ~(255 << shift) | 9 << shift;
            x.feed(n[0], n[1], n[2], n[3], n[4]);
            check.due("2: the byte " + place, ARGUMENT, x::lines);
            same("6: the byte " + place, place, x.fault());
        }
        CyclicLines x = new CyclicLines();
        x.feed(0x20202080, 0x7fffffff, -1, Integer.MIN_VALUE, 0);
        check.due("2: 128", ARGUMENT, x::lines);
        same("6: 128", 3, x.fault());
        x.feed(0x0f0f0f0f, 0xff000000, 0, 0, 0);
        x.end(4);
        check.due("2: fifteen", 0, () -> x.takes(false));
        x.feed(0x0f0f0f0f, 0xff000000, 0, 0, 0);
        x.end(5);
        check.due("2: 255", ARGUMENT, () -> x.takes(false));
    }

    private void ends() {
        CyclicLines x = new CyclicLines();
        same("3: none of none", true, x.end(0));
        same("3: one of none", false, x.end(1));
        same("3: below 0", false, x.end(-1));
        Check.tape(x, "tick 12");
        same("3: one too many", false, x.end(8));
        same("3: below", false, x.end(-1));
        same("3: the least", false, x.end(Integer.MIN_VALUE));
        same("3: the greatest", false, x.end(Integer.MAX_VALUE));
        same("3: all", true, x.end(7));
        same("4: nothing happened", 1, x.lines());
        same("4: all of it", 12, x.count(3));
        Check.tape(x, "tick 34");
        same("3: but the last", true, x.end(6));
        same("3: it is gone", false, x.end(7));
        same("4: alone", 2, x.lines());
        same("4: the first six", 3, x.count(3));
        Check.tape(x, "tick 5");
        same("3: none", true, x.end(0));
        same("4: an empty text", 3, x.lines());
        same("4: no tick", 3, x.count(3));
    }

    // ---- texts of the lines ----

    private void emptyTexts() {
        String[] none = {"", " ", " ".repeat(20), " ".repeat(399), " ".repeat(400)};
        for (String text : none) {
            same("4: no line in " + text.length(), 0, right(text).count(0));
            same("5: no line in " + text.length(), 0, lawRight(0, text).count(2));
        }
        same("5: ahead of any", NONE, new CyclicLines().count(2));
    }

    private void longestTexts() {
        same("4: 400", 7, right(" ".repeat(394) + "tick 7").count(3));
        same("4: 400 with blanks behind", 7, right("tick 7" + " ".repeat(394)).count(3));
        same("4: 400 with blanks between", 7, right("tick" + " ".repeat(395) + "7").count(3));
        wrong(399, " ".repeat(399) + "x");
        wrong(400, " ".repeat(396) + "tick");
        wrong(400, " ".repeat(395) + "line;");
        wrong(0, "a".repeat(400));
        wrong(5, "tick " + "0".repeat(395));
        lawWrong(400, " ".repeat(395) + "spoil");
        lawWrong(17, "spoil 1 if kept <" + "0".repeat(383));
        // As many things as bytes.
        wrong(0, ";".repeat(400));
        lawWrong(17, "spoil 1 if ((((((" + "(".repeat(383));
    }

    private void numbersOfALine() {
        String[] parts = {"noise", "delay", "units", "octets", "limit"};
        int[][] bounds = {{0, 100}, {1, 4}, {1, 8}, {9, 60}, {1, 20}};
        int[] atFirst = {0, 2, 4, 30, 4};
        for (int i = 0; i < parts.length; i++) {
            String ahead = "line " + parts[i] + " ";
            int at = ahead.length();
            for (int n = bounds[i][0]; n <= bounds[i][1]; n++) {
                CyclicLines x = right(ahead + n);
                for (int k = 0; k < parts.length; k++) {
                    same("7: " + ahead + n + " " + k, k == i ? n : atFirst[k], x.line(0, 1 + k));
                }
            }
            if (bounds[i][0] > 0) {
                wrong(at, ahead + (bounds[i][0] - 1));
                wrong(at, ahead + "0");
            }
            wrong(at, ahead + (bounds[i][1] + 1));
            wrong(at, ahead + "999");
            wrong(at, ahead + "1000");
            wrong(at, ahead + "-1");
            wrong(at, ahead + "in");
            wrong(at, ahead);
            wrong(at - 1, "line " + parts[i]);
        }
    }

    /** Numbers are of 1 to 3 digits, noughts ahead, too. */
    private void digits() {
        same("4: one digit", 7, right("line noise 7").line(0, 1));
        same("4: two digits", 7, right("line noise 07").line(0, 1));
        same("4: three digits", 7, right("line noise 007").line(0, 1));
        wrong(11, "line noise 0007");
        wrong(11, "line noise 0000");
        wrong(11, "line noise 0100");
        wrong(13, "line noise 1 00");
        wrong(11, "line noise 99999999999999999999");
        same("4: a unit of three digits", 9, right("line;units 000 of 009").unit(0, 0, 1));
        wrong(11, "line;units 0000 of 9");
        wrong(16, "line;units 0 of 0009");
        same("4: 999", 999, right("tick 999").count(3));
        wrong(5, "tick 0999");
    }

    /** Each part may be there or not, in that order, once. */
    private void partsOfALine() {
        String[] parts = {"noise 9", "delay 3", "units 5", "octets 40", "limit 6", "in"};
        int[] due = {9, 3, 5, 40, 6, 2};
        int[] without = {0, 2, 4, 30, 4, 0};
        int[] whats = {1, 2, 3, 4, 5, 0};
        for (int set = 0; set < 64; set++) {
            StringBuilder text = new StringBuilder("line");
            for (int i = 0; i < parts.length; i++) {
                text.append((set >> i & 1) == 1 ? " " + parts[i] : "");
            }
            CyclicLines x = right(text.toString());
            for (int i = 0; i < parts.length; i++) {
                same("4: '" + text + "' " + i, (set >> i & 1) == 1 ? due[i] : without[i], x.line(0, whats[i]));
            }
        }
        for (int i = 0; i < parts.length; i++) {
            for (int k = 0; k <= i; k++) {
                wrong(6 + parts[i].length(), "line " + parts[i] + " " + parts[k]);
            }
        }
        wrong(8, "line in proving");
        wrong(13, "line proving in");
        wrong(5, "line out");
        same("4: proving", 1, right("line proving").line(0, 0));
    }

    private void linesMost() {
        same("4: one", 1, right("line").count(0));
        same("4: four", 4, right("line;line;line;line").count(0));
        wrong(20, "line;line;line;line;line");
        wrong(20, "line;line;line;line;line noise 101");
        wrong(20, "line;line;line;line;line line");
        same("4: four by two texts", 4, right("line;line", "line;line").count(0));
        wrong(5, "line;line", "line;line;line");
        wrong(0, "line", "line;line;line;line");
        wrong(2, "  line", "line", "line", "line", "line");
        same("4: other things behind four", 4, right("tick 3;units 3 of 5", "line;line;line;line").count(0));
    }

    private void statementsMost() {
        String thirteen = "line" + ";tick 1".repeat(12);
        same("4: thirteen", 1, right(thirteen).count(0));
        same("4: fourteen", 2, right(thirteen + ";tick 2").count(3));
        int at = thirteen.length() + ";tick 2".length() + 1;
        wrong(at, thirteen + ";tick 2;tick 3");
        wrong(at, thirteen + ";tick 2;line");
        wrong(at, thirteen + ";tick 2;units 0 of 1");
        wrong(at, thirteen + ";tick 2;x");
        wrong(at, thirteen + ";tick 2;");
        wrong(at + 2, thirteen + ";tick 2;  ");
        wrong(at + 2, thirteen + ";tick 2;  tick 3");
        wrong(at, thirteen + ";tick 2;;");
        same("4: fourteen again", 2, right(thirteen + ";tick 2", thirteen + ";tick 3").count(0));
    }

    private void unitsOf() {
        wrong(6, "units 0 of 1");
        same("4: the first", 1, right("line;units 0 of 1").line(0, 6));
        wrong(11, "line;units 1 of 1");
        wrong(6, "units 0 of 1;line");
        same("4: the fourth", 1, right("line;line;line;line;units 3 of 1").line(3, 6));
        wrong(26, "line;line;line;line;units 4 of 1");
        wrong(26, "line;line;line;line;units 999 of 1");
        same("4: of an earlier text", 1, right("units 0 of 1", "line").line(0, 6));
        wrong(6, "units 1 of 1", "line");
        for (int length = 1; length <= 9; length++) {
            same("4: length " + length, length, right("line;units 0 of " + length).unit(0, 0, 1));
        }
        wrong(16, "line;units 0 of 0");
        wrong(16, "line;units 0 of 10");
        wrong(15, "line;units 0 of");
        wrong(18, "line;units 0 of 1 0");
        wrong(18, "line;units 0 of 1 10");
    }

    private void unitsMost() {
        same("4: one", 1, right("line;units 0 of 9").count(8));
        same("4: eleven", 11, right("line;units 0 of" + " 2".repeat(11)).count(8));
        CyclicLines x = right("line;units 0 of" + " 2".repeat(11) + " 3");
        same("4: twelve", 12, x.count(8));
        same("8: the twelfth", 3, x.unit(0, 11, 1));
        same("8: its serial", 11, x.unit(0, 11, 0));
        int at = "line;units 0 of".length() + 24 + 1;
        wrong(at, "line;units 0 of" + " 2".repeat(13));
        wrong(at, "line;units 0 of" + " 2".repeat(14));
        wrong(at, "line;units 0 of" + " 2".repeat(12) + " 0");
        wrong(at, "line;units 0 of" + " 2".repeat(12) + " 1000");
        wrong(at, "line;units 0 of" + " 2".repeat(12) + " in");
        wrong(at - 1, "line;units 0 of" + " 2".repeat(12) + "(");
        same("4: numbers end", 13, right("line;units 0 of" + " 2".repeat(12) + ";units 0 of 1").count(8));
    }

    private void queueOf24() {
        String twelve = "units 0 of" + " 2".repeat(12);
        String eleven = "units 0 of" + " 2".repeat(11);
        same("4: 23", 23, right(eleven, "line", twelve).line(0, 6));
        same("4: 24", 24, right(twelve, "line", twelve).line(0, 6));
        wrong(11, "units 0 of 1", "line", twelve, twelve);
        wrong(11, "units 0 of 1000", "line", twelve, twelve);
        wrong(10, "units 0 of", "line", twelve, twelve);
        same("4: one more", 24, right("units 0 of 1", "line", twelve, eleven).line(0, 6));
        wrong(13, "units 0 of 1 1", "line", twelve, eleven);
        wrong("line;".length() + 2 * twelve.length() + 13, "line;" + twelve + ";" + twelve + ";units 0 of 7");
        same("4: of another line", 1, right("units 1 of 1", "line;line", twelve, twelve).line(1, 6));
        // As soon as one is sent there is room for one.
        CyclicLines x = Check.of("line in;" + twelve + ";" + twelve);
        check.due("4: no room", ARGUMENT, () -> Check.lines(x, "units 0 of 3"));
        x.ticks(1);
        check.due("4: no room for two", ARGUMENT, () -> Check.lines(x, "units 0 of 3 3"));
        same("6: at the second", 13, x.fault());
        same("4: room for one", 2, Check.lines(x, "units 0 of 3"));
        // A QUEUE of more than 24, by a changeover.
        CyclicLines y = Check.of("line in;line;" + twelve + ";" + twelve + ";units 1 of 3");
        y.start(1);
        y.shut(1);
        same("14: 25", 25, y.line(0, 6));
        check.due("4: 25 have no room", ARGUMENT, () -> Check.lines(y, "units 0 of 3"));
        same("6: at that one", 11, y.fault());
        check.due("12: 25 have no room", IllegalStateException.class, () -> y.tell(0, 1));
    }

    private void ticks() {
        same("4: tick 0", 0, right("tick 0", "tick 5").count(3));
        same("4: tick 999", 999, right("tick 999").count(3));
        wrong(5, "tick 1000");
        wrong(4, "tick");
        wrong(7, "tick 5 5");
    }

    private void words() {
        // Words are as long as a to z go on.
        wrong(0, "lin");
        wrong(0, "linee");
        wrong(0, "lineline");
        wrong(0, "lineunits 5");
        wrong(0, "LINE");
        wrong(5, "line NOISE 1");
        wrong(0, "`line");
        wrong(0, "{line");
        wrong(4, "line{");
        wrong(4, "line`");
        wrong(11, "line noise /");
        wrong(11, "line noise :");
        wrong(12, "line noise 5/");
        wrong(12, "line noise 5:");
        same("4: words and numbers need no blanks", 5, right("line noise5delay1in").line(0, 1));
        same("4: numbers and words", 2, right("line;units 0of 3;line in").line(1, 0));
        wrong(12, "line noise 5x");
        wrong(5, "line 5");
        wrong(0, "5 line");
        wrong(0, "noise 5");
        wrong(5, "units0of1");
        right("units0of1", "line");
        wrong(0, "spoil 5");
        wrong(8, "units 0 if 5", "line");
        wrong(8, "units 0 5", "line");
        wrong(5, "line;");
        wrong(0, ";line");
        wrong(5, "line;;line");
        wrong(5, "line line");
        wrong(4, "line,line");
    }

    private void blanks() {
        CyclicLines x = right("   line   noise   5   ;   units   0   of   3   4   ;   tick   7   ");
        same("4: noise", 5, x.line(0, 1));
        same("4: units", 2, x.line(0, 6));
        same("4: tick", 7, x.count(3));
        CyclicLines y = right("line noise5;units0of3 4;tick7");
        same("4: none of these", Look.at(x), Look.at(y));
        wrong(4, "line\tin");
        wrong(4, "line\n");
        wrong(0, "\u0000");
        wrong(4, "line\u00a0in");
        wrong(5, "line noi se 5");
        wrong(13, "line noise 1 0 0");
    }

    /** Each byte that no thing begins with is wrong where it stands. */
    private void strangeBytes() {
        for (int b = 0; b < 256; b++) {
            boolean word = b >= 'a' && b <= 'z';
            if (b != ' ' && b != ';') {
                wrong(8, "line in " + (char) b);
            }
            if (!word && b != ' ') {
                wrong(0, (char) b + "line");
            }
        }
        right("line in  ");
    }

    /** The text's length, if more must come. */
    private void moreMustCome() {
        String[] begun = {"line;", "tick", "units", "units 0", "units 0 of", "line noise", "line noise 5 delay",
            "line units", "line octets", "line limit", "line in;", "tick 5;", "units 0 of 3;"};
        for (String text : begun) {
            wrong(text.length(), text, "line");
            wrong(text.length() + 1, text + " ", "line");
            wrong(text.length() + 7, text + "       ", "line");
        }
        String[] law = {"spoil", "mend", "worth", "spoil 1;", "spoil 1 if", "spoil 1 if not", "spoil 1 if (",
            "spoil 1 if filler or", "spoil 1 if filler and", "spoil 1 if (filler", "spoil 1 if 1", "spoil 1 if kept",
            "spoil 1 if kept+", "spoil 1 if kept <", "spoil 1 if kept > 1 +", "spoil 1 if not not"};
        for (String text : law) {
            lawWrong(text.length(), text);
            lawWrong(text.length() + 3, text + "   ");
        }
    }

    // ---- the law ----

    private void lawLinesMost() {
        String eleven = "mend 0" + ";mend 0".repeat(10);
        same("5: eleven hold", 1, lawRight(11, eleven).chance(0));
        same("5: the twelfth holds", 10, lawRight(12, eleven + ";spoil 9").chance(0));
        int at = eleven.length() + ";spoil 9;".length();
        lawWrong(at, eleven + ";spoil 9;mend 1");
        lawWrong(at, eleven + ";spoil 9;mend 100");
        lawWrong(at, eleven + ";spoil 9;");
        lawWrong(at, eleven + ";spoil 9;x");
        lawWrong(at + 1, eleven + ";spoil 9; mend 1");
        same("5: one", 10, lawRight(1, "spoil 9").chance(0));
    }

    private void lawNumbers() {
        same("5: 0", 1, lawRight(1, "spoil 0").chance(0));
        same("5: 99", 100, lawRight(1, "spoil 99").chance(0));
        same("5: 099", 100, lawRight(1, "spoil 099").chance(0));
        for (String kind : new String[] {"spoil ", "mend ", "worth "}) {
            lawWrong(kind.length(), kind + "100");
            lawWrong(kind.length(), kind + "999");
            lawWrong(kind.length(), kind + "0099");
            lawWrong(kind.length(), kind + "-1");
            lawRight(1, kind + "99");
            lawRight(1, kind + "0");
        }
        same("5: 0 in a sum", 1, lawRight(1, "spoil 5 if kept<0").chance(0));
        same("5: 999 in a sum", 6, lawRight(1, "spoil 5 if kept<999").chance(0));
        lawWrong(16, "spoil 5 if kept<1000");
        lawWrong(16, "spoil 5 if kept<0001");
        lawWrong(11, "spoil 5 if 1000>kept");
        lawWrong(18, "spoil 5 if kept<1+1000");
    }

    private void deep() {
        String ahead = "spoil 5 if ";
        int begin = ahead.length();
        same("5: ( 6 deep", 6, lawRight(1, ahead + "((((((filler))))))").chance(0));
        lawWrong(begin + 6, ahead + "(((((((filler)))))))");
        same("5: not 6 deep", 6, lawRight(1, ahead + "not not not not not not filler").chance(0));
        lawWrong(begin + 24, ahead + "not not not not not not not filler");
        same("5: five not", 1, lawRight(1, ahead + "not not not not not filler").chance(0));
        same("5: both", 1, lawRight(1, ahead + "not(not(not(filler)))").chance(0));
        lawWrong(begin + 12, ahead + "not(not(not((filler))))");
        lawWrong(begin + 12, ahead + "not(not(not(not filler)))");
        same("5: both, not inside", 6, lawRight(1, ahead + "(((((not forced)))))").chance(0));
        lawWrong(begin + 6, ahead + "((((((not forced))))))");
        lawWrong(begin + 21, ahead + "not not not not not (not filler)");
        // One behind another is not within one another.
        same("5: six twice", 6, lawRight(1, ahead + "((((((filler)))))) and ((((((filler))))))").chance(0));
        same("5: six not twice", 6,
                lawRight(1, ahead + "not not not not not not filler and not not not not not not filler").chance(0));
        same("5: many not", 6, lawRight(1, ahead + "not forced" + " and not forced".repeat(20)).chance(0));
        same("5: many (", 6, lawRight(1, ahead + "(filler)" + " or (filler)".repeat(20)).chance(0));
        same("5: five with one within", 6, lawRight(1, ahead + "(((((forced or (filler))))))").chance(0));
        lawWrong(begin + 16, ahead + "((((((forced or (filler)))))))");
        lawWrong(begin + 16, ahead + "((((((forced or not filler))))))");
        same("5: of the second line", 6, lawRight(2, "mend 0 if ((((((filler))))));" + ahead + "((((((filler))))))").chance(0));
        lawWrong(begin + 18, ahead + "((((((filler)))))))");
        lawWrong(begin + 17, ahead + "((((((filler)))))");
    }

    private void lawWords() {
        same("5: no blanks", 6, lawRight(1, "spoil5if(1<2and(kept<1))or not(filler)").chance(0));
        lawWrong(11, "spoil 5 if notfiller");
        lawWrong(8, "spoil 5 iffiller");
        lawWrong(15, "spoil 5 if 1<2 andfiller");
        lawWrong(18, "spoil 5 if filler xor filler");
        lawWrong(11, "spoil 5 if fillers");
        lawWrong(11, "spoil 5 if noise<1");
        lawWrong(11, "spoil 5 if limit<1");
        lawWrong(8, "spoil 5 , mend 5");
        lawWrong(8, "spoil 5 filler");
        lawWrong(18, "spoil 5 if filler 5");
        lawWrong(17, "spoil 5 if filler+1<2");
        lawWrong(16, "spoil 5 if kept<filler");
        lawWrong(13, "spoil 5 if 1 and filler");
        lawWrong(18, "spoil 5 if (kept+1)<2");
        lawWrong(14, "spoil 5 if 1<2<3");
        lawWrong(13, "spoil 5 if 1<<2");
        lawWrong(12, "spoil 5 if 1=1");
        lawWrong(11, "spoil 5 if -1<1");
        lawWrong(13, "spoil 5 if 1++1<3");
        lawWrong(0, "tick 5");
        lawWrong(0, "if filler");
        lawWrong(0, "5");
        lawWrong(0, ";");
    }

    /** < and > are not of like sums; what a filler has. */
    private void comparisons() {
        holds(true, "line", "4<5");
        holds(false, "line", "5<5");
        holds(false, "line", "6<5");
        holds(false, "line", "4>5");
        holds(false, "line", "5>5");
        holds(true, "line", "6>5");
        holds(true, "line", "0<1");
        holds(false, "line", "length>0");
        holds(true, "line", "length<1");
        holds(false, "line", "kept>0");
        holds(false, "line", "queue>0");
        holds(true, "line;units 0 of 9", "queue>0");
        holds(false, "line;units 0 of 9", "queue>1");
        holds(true, "line delay 4", "delay>3");
        holds(false, "line delay 4", "delay>4");
        holds(true, "line delay 1", "delay<2");
        holds(false, "line", "line>0");
        holds(false, "line", "bucket>0");
        holds(true, "line;tick 99", "tick>98");
        holds(false, "line;tick 100", "tick>0");
        holds(true, "line;tick 101", "tick>0 and tick<2");
        holds(true, "line;tick 999", "tick>98");
        holds(true, "line", "999+999+999>998+999+999");
        holds(false, "line", "999+999+999>999+999+999");
        // A filler has no LENGTH, and is not repeated, also behind a UNIT that was.
        CyclicLines sent = Check.of("line in;line proving;units 0 of 9");
        sent.ticks(2);
        Check.law(sent, "spoil 7 if length>0 or repeat;spoil 1 if filler");
        same("16: a filler behind a unit", 1, sent.chance(0));
        same("16: a filler on another line", 1, sent.chance(1));
        Check.law(sent, "spoil 99 if length>0;spoil 1 if length>0");
        sent.ticks(1);
        same("11: bad by its length", 1, sent.air(0, 1, 3));
        same("11: a filler behind it", 0, sent.air(1, 1, 3));
        CyclicLines x = Check.of("line;line;line;line");
        Check.law(x, "spoil 7 if line>2;spoil 1 if line<1");
        same("5: line 0", 1, x.chance(0));
        same("5: line 2", 0, x.chance(2));
        same("5: line 3", 7, x.chance(3));
    }

    private int chance(int noise, String law) {
        CyclicLines x = Check.of("line noise " + noise);
        Check.law(x, law);
        return x.chance(0);
    }

    private void chanceBounds() {
        same("16: 0", 0, chance(0, ""));
        same("16: 100", 100, chance(100, ""));
        same("16: 99", 99, chance(90, "spoil 9"));
        same("16: just 100", 100, chance(90, "spoil 10"));
        same("16: 101 would be", 100, chance(90, "spoil 11"));
        same("16: far above", 100, chance(100, "spoil 99" + ";spoil 99".repeat(11)));
        same("16: 1", 1, chance(10, "mend 9"));
        same("16: just 0", 0, chance(10, "mend 10"));
        same("16: -1 would be", 0, chance(10, "mend 11"));
        same("16: far below", 0, chance(0, "mend 99" + ";mend 99".repeat(11)));
        // All spoil and all mend ahead of the bounds, not one by one.
        same("16: 100 and 99 and back", 90, chance(90, "spoil 99;mend 99"));
        same("16: 10 and back", 10, chance(10, "mend 99;spoil 99"));
    }

    // ---- fault ----

    private void faults() {
        CyclicLines x = new CyclicLines();
        same("6: ahead of any", NONE, x.fault());
        Check.tape(x, "x");
        same("6: not read yet", NONE, x.fault());
        check.due("6: wrong at once", ARGUMENT, x::lines);
        same("6: the first byte", 0, x.fault());
        Check.lines(x, "");
        same("6: of an empty one", NONE, x.fault());
        check.due("6: wrong law", ARGUMENT, () -> Check.law(x, "spoil"));
        same("6: its length", 5, x.fault());
        check.due("6: no text", ARGUMENT, () -> {
            Check.tape(x, new byte[] {77});
            return x.period();
        });
        same("6: of a text alone", 5, x.fault());
        check.due("6: takes reads no text", 1, () -> {
            Check.tape(x, new byte[] {0});
            return x.takes(false);
        });
        same("6: of a text alone, too", 5, x.fault());
        x.image();
        x.back();
        same("6: going back leaves it", 5, x.fault());
        Check.law(x, "");
        same("6: of an empty law", NONE, x.fault());
    }
}
