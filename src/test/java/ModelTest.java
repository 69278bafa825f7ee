import java.util.ArrayList;
import java.util.List;
import java.util.Random;
import java.util.StringJoiner;

/** Random runs of calls, each answered by the class and by the plain model of the document. */
public final class ModelTest {
    private static final int STEPS = 250;

    private final Random random;
    private final CyclicLines real = new CyclicLines();
    private final Model model = new Model();
    private final List<String> told = new ArrayList<>();
    private final boolean calm;
    private int calls;

    private ModelTest(long seed) {
        random = new Random(seed);
        calm = random.nextBoolean();
    }

    public static void main(String[] args) {
        int runs = args.length > 0 ? Integer.parseInt(args[0]) : 600;
        long first = args.length > 1 ? Long.parseLong(args[1]) : 1;
        long calls = 0;
        for (long seed = first; seed < first + runs; seed++) {
            ModelTest run = new ModelTest(seed);
            if (!run.passes()) {
                System.out.println("run " + seed + " differs:");
                run.told.forEach(System.out::println);
                System.exit(1);
            }
            calls += run.calls;
        }
        System.out.println("ModelTest: " + runs + " runs, " + calls + " calls alike");
    }

    private int up(int bound) {
        return random.nextInt(bound);
    }

    private int between(int least, int most) {
        return least + up(most - least + 1);
    }

    private boolean rarely(int times) {
        return up(times) == 0;
    }

    private boolean alike(String call, Check.Call due, Check.Call got) {
        calls++;
        Object d = Check.outcome(due);
        Object g = Check.outcome(got);
        told.add(call + " = " + g + (d.equals(g) ? "" : ", due is " + d));
        return d.equals(g);
    }

    private boolean passes() {
        if (!text(linesText(true), 0)) {
            return false;
        }
        for (int step = 0; step < STEPS; step++) {
            if (!oneCall() || step % 20 == 0 && !allAlike()) {
                return false;
            }
        }
        return allAlike();
    }

    private boolean text(String text, int how) {
        byte[] bytes = Check.bytes(text);
        for (int from = 0; from < bytes.length; from += 20) {
            int[] n = Check.packed(bytes, from);
            if (!alike("feed '" + text + "' " + from, () -> model.feed(n[0], n[1], n[2], n[3], n[4]),
                    () -> real.feed(n[0], n[1], n[2], n[3], n[4]))) {
                return false;
            }
        }
        int length = bytes.length;
        if (!alike("end " + length, () -> model.end(length), () -> real.end(length))) {
            return false;
        }
        boolean same;
        switch (how) {
            case 0: same = alike("lines", model::lines, real::lines); break;
            case 1: same = alike("law", model::law, real::law); break;
            case 2: same = alike("takes", () -> model.takes(false), () -> real.takes(false)); break;
            case 3: same = alike("wants", () -> model.takes(true), () -> real.takes(true)); break;
            case 4: same = alike("period", model::period, real::period); break;
            case 5: same = alike("likely", model::likely, real::likely); break;
            default: same = alike("probe", model::probe, real::probe); break;
        }
        return same && alike("fault", model::fault, real::fault);
    }

    private boolean oneCall() {
        int line = rarely(12) ? between(-2, 5) : up(Math.max(1, model.count(0)));
        int n = between(-1, 61);
        int k = between(-2, 9);
        boolean flag = random.nextBoolean();
        switch (up(44)) {
            case 0: return text(spoilt(linesText(false)), 0);
            case 1: return text(spoilt(lawText()), 1);
            case 2: return text(numbers(), up(2) + 2);
            case 3: return text(seenRows(), up(3) + 4);
            case 4: case 5: case 6: case 7: case 8:
                int few = rarely(3) ? n : between(1, 6);
                return alike("ticks " + few, () -> model.ticks(few), () -> real.ticks(few));
            case 9: case 10: case 11: case 12:
                int length = rarely(10) ? between(-1, 11) : between(1, 9);
                return alike("tell " + line + " " + length, () -> model.tell(line, length), () -> real.tell(line, length));
            case 13: case 14: return alike("start " + line, () -> model.start(line), () -> real.start(line));
            case 15: return alike("shut " + line, () -> model.shut(line), () -> real.shut(line));
            case 16: case 17: return tune(line);
            case 18: return alike("chance " + line, () -> model.chance(line), () -> real.chance(line));
            case 19: return alike("clear", model::clear, real::clear);
            case 20: return rarely(4) ? alike("split " + k, () -> model.split(k), () -> real.split(k)) : true;
            case 21: return alike("pairs " + k, () -> model.pairs(k), () -> real.pairs(k));
            case 22:
                int given = between(-1, 101);
                return alike("share " + line + " " + given, () -> model.share(line, given), () -> real.share(line, given));
            case 23: return alike("rests " + line, () -> model.rests(line), () -> real.rests(line));
            case 24:
                int of = between(-1, 6);
                return alike("odds " + line + " " + of + " " + k, () -> model.odds(line, of, k), () -> real.odds(line, of, k));
            case 25: return alike("most " + k, () -> model.most(k), () -> real.most(k));
            case 26: return alike("byState " + k, () -> model.byState(k), () -> real.byState(k));
            case 27: return alike("twins", model::twins, real::twins);
            case 28:
                int or = rarely(3) ? -1 : line;
                return alike("ahead " + or + " " + n, () -> model.ahead(or, n), () -> real.ahead(or, n));
            case 29: return alike("trial " + n + flag, () -> model.trial(n, flag), () -> real.trial(n, flag));
            case 30: return alike("span " + n + flag, () -> model.span(n, flag), () -> real.span(n, flag));
            case 31: return alike("led " + line + flag, () -> model.led(line, flag), () -> real.led(line, flag));
            case 32: return alike("log " + n + " " + k, () -> model.log(n, k), () -> real.log(n, k));
            case 33:
                int seed = flag ? random.nextInt() : up(9);
                return alike("seed " + seed, () -> model.seed(seed), () -> real.seed(seed));
            case 34: return undoSome();
            case 35: return imageOrBack();
            case 36: case 37: case 38:
                int what = between(0, 21);
                return alike("line " + line + " " + what, () -> model.line(line, what), () -> real.line(line, what));
            case 39: return alike("unit " + line + " " + n + " " + k, () -> model.unit(line, n, k), () -> real.unit(line, n, k));
            case 40: return alike("air " + line + " " + k + " 4", () -> model.air(line, k, 4), () -> real.air(line, k, 4));
            case 41: return feedMore();
            default: return alike("ticks 1", () -> model.ticks(1), () -> real.ticks(1));
        }
    }

    private boolean undoSome() {
        boolean same = true;
        for (int i = rarely(3) ? 14 : 1; i > 0 && same; i--) {
            same = alike("undo", model::undo, real::undo);
        }
        return same;
    }

    private boolean imageOrBack() {
        if (rarely(3)) {
            return alike("back", model::back, real::back);
        }
        model.image();
        real.image();
        told.add("image");
        return true;
    }

    private boolean feedMore() {
        int n = random.nextInt();
        boolean same = true;
        for (int i = up(25); i > 0 && same; i--) {
            same = alike("feed " + n, () -> model.feed(n, 1, -1, 2, n), () -> real.feed(n, 1, -1, 2, n));
        }
        int end = between(-1, 41);
        return same && alike("end " + end, () -> model.end(end), () -> real.end(end))
                && alike("end 0", () -> model.end(0), () -> real.end(0));
    }

    private boolean tune(int line) {
        int what = rarely(15) ? between(-1, 4) : up(4);
        int n = rarely(10) ? between(-1, 101)
                : what == 0 ? calm ? up(15) : up(101) : what == 1 ? between(1, 8) : what == 2 ? between(9, 40) : between(1, 8);
        return alike("tune " + line + " " + what + " " + n, () -> model.tune(line, what, n), () -> real.tune(line, what, n));
    }

    /** Looks at all that an object tells without being asked to think. */
    private boolean allAlike() {
        boolean same = true;
        for (int i = -1; i < 12 && same; i++) {
            int what = i;
            same = alike("count " + what, () -> model.count(what), () -> real.count(what));
        }
        for (int i = 0; i < model.count(0) && same; i++) {
            same = lineAlike(i);
        }
        for (int i = 0; i < 62 && same; i++) {
            for (int j = 0; j < 4 && same; j++) {
                int ago = i;
                int what = j;
                same = alike("log " + ago + " " + what, () -> model.log(ago, what), () -> real.log(ago, what));
            }
        }
        return same;
    }

    private boolean lineAlike(int line) {
        boolean same = true;
        for (int w = 0; w < 19 && same; w++) {
            int what = w;
            same = alike("line " + line + " " + what, () -> model.line(line, what), () -> real.line(line, what));
        }
        for (int i = 0; i < 106 && same; i++) {
            for (int w = 0; w < 3 && same; w++) {
                int k = i;
                int what = w;
                same = alike("unit " + line + " " + k + " " + what, () -> model.unit(line, k, what), () -> real.unit(line, k, what));
            }
        }
        for (int i = -1; i < 6 && same; i++) {
            int k = i;
            for (int w = 0; w < 4 && same; w++) {
                int what = w;
                same = alike("air " + line + " " + k + " " + what, () -> model.air(line, k, what), () -> real.air(line, k, what));
            }
            same = same && alike("reply " + line + " " + k, () -> model.reply(line, k), () -> real.reply(line, k));
        }
        return same;
    }

    // ---- what stands on the tape ----

    private String linesText(boolean first) {
        StringJoiner text = new StringJoiner(";");
        int n = first ? between(1, 4) : up(4);
        int lines = model.count(0);
        for (int i = 0; i < n; i++) {
            if (first || rarely(3) && lines < 4) {
                text.add(lineText());
                lines++;
            } else if (rarely(4)) {
                text.add("tick " + up(1000));
            } else {
                text.add(unitsText(lines));
            }
        }
        if (first) {
            text.add(unitsText(lines));
        }
        return text.toString();
    }

    private String lineText() {
        StringBuilder text = new StringBuilder("line");
        if (random.nextBoolean()) {
            text.append(" noise ").append(calm ? up(12) : rarely(5) ? 100 : up(60));
        }
        if (random.nextBoolean()) {
            text.append(" delay ").append(between(1, 4));
        }
        if (random.nextBoolean()) {
            text.append(" units ").append(between(1, 8));
        }
        if (random.nextBoolean()) {
            text.append(" octets ").append(between(9, 60));
        }
        if (random.nextBoolean()) {
            text.append(" limit ").append(rarely(3) ? between(1, 20) : between(1, 4));
        }
        return text.append(rarely(5) ? "" : rarely(4) ? " proving" : " in").toString();
    }

    private String unitsText(int lines) {
        StringBuilder text = new StringBuilder("units ").append(up(Math.max(1, lines))).append(" of");
        for (int n = rarely(6) ? between(1, 13) : between(1, 6); n > 0; n--) {
            text.append(' ').append(between(1, 9));
        }
        return text.toString();
    }

    private String lawText() {
        StringJoiner text = new StringJoiner("; ");
        String[] kinds = {"spoil", "mend", "worth"};
        for (int n = rarely(9) ? between(0, 13) : between(0, 5); n > 0; n--) {
            String line = kinds[up(3)] + " " + (rarely(2) ? up(100) : up(15));
            text.add(rarely(4) ? line : line + " if " + condition(between(0, rarely(6) ? 8 : 3)));
        }
        return text.toString();
    }

    private String condition(int deep) {
        StringBuilder text = new StringBuilder(atom(deep));
        while (rarely(3)) {
            text.append(random.nextBoolean() ? " and " : " or ").append(atom(deep));
        }
        return text.toString();
    }

    private String atom(int deep) {
        if (deep > 0 && random.nextBoolean()) {
            return random.nextBoolean() ? "not " + atom(deep - 1) : "(" + condition(deep - 1) + ")";
        }
        switch (up(6)) {
            case 0: return "filler";
            case 1: return "forced";
            case 2: return "repeat";
            default: return sum() + (random.nextBoolean() ? "<" : " > ") + sum();
        }
    }

    private String sum() {
        String[] parts = {"line", "length", "kept", "queue", "bucket", "delay", "tick"};
        StringBuilder text = new StringBuilder();
        do {
            text.append(text.length() == 0 ? "" : "+");
            text.append(random.nextBoolean() ? parts[up(7)] : Integer.toString(rarely(4) ? up(100) : up(6)));
        } while (rarely(3));
        return text.toString();
    }

    /** Mostly the text itself; else one that may be wrong. */
    private String spoilt(String text) {
        String right = text.length() > 400 ? text.substring(0, 400) : text;
        if (!rarely(3)) {
            return right;
        }
        int at = up(right.length() + 1);
        String[] things = {" ", ";", "(", ")", "x", "7", "1000", "<", "+", " not ", " and ", " or ", "line", " if ",
            " in ", "\n", "\u00e9", " of ", "units 0 of 1", " 4 5 ", "A", "not(not(not(not(not(not(", "filler", ""};
        String more = things[up(things.length)];
        int to = Math.min(right.length(), at + up(4));
        String spoiltText = right.substring(0, at) + more + right.substring(rarely(2) ? at : to);
        return spoiltText.length() > 400 ? right : spoiltText;
    }

    private String numbers() {
        StringBuilder text = new StringBuilder();
        int expect = 0;
        for (int n = rarely(6) ? between(38, 42) : up(30); n > 0; n--) {
            text.append((char) (rarely(4) ? up(rarely(20) ? 18 : 16) : expect));
            expect = (expect + 1) % 16;
        }
        return text.toString();
    }

    private String seenRows() {
        StringBuilder text = new StringBuilder();
        int period = between(1, 12);
        int phase = up(period);
        for (int n = rarely(8) ? between(19, 21) : up(12); n > 0; n--) {
            int tick = up(rarely(30) ? 102 : 100);
            int bad = tick % period == phase ? 1 : 0;
            text.append((char) tick).append((char) (rarely(12) ? up(3) : bad));
        }
        if (rarely(12)) {
            text.append((char) 1);
        }
        return text.toString();
    }
}
