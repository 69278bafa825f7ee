import java.util.ArrayList;
import java.util.Arrays;
import java.util.List;
import java.util.NoSuchElementException;
import java.util.function.Predicate;
import java.util.function.ToIntFunction;
import java.util.regex.Matcher;
import java.util.regex.Pattern;

/** The document a second time, written plainly over lists and trees: what ModelTest compares with. */
final class Model {
    static final int NONE = -1;

    static final class Unit {
        final int serial;
        final int length;
        int number = NONE;
        int times;

        Unit(int serial, int length) {
            this.serial = serial;
            this.length = length;
        }

        Unit copy() {
            Unit u = new Unit(serial, length);
            u.number = number;
            u.times = times;
            return u;
        }
    }

    record Sent(Unit unit, int number, boolean bad) { }

    static final class Line {
        int state, noise, delay = 2, unitsMost = 4, octetsMost = 30, limit = 4;
        List<Unit> queue = new ArrayList<>();
        List<Unit> back = new ArrayList<>();
        List<Sent> air = new ArrayList<>();
        List<Integer> ret = new ArrayList<>();
        int hand, next, expect, bucket, good, proved, bad, tries;
        boolean forced;

        void fresh() {
            next = expect = hand = bucket = good = proved = bad = tries = 0;
            forced = false;
            air = new ArrayList<>();
            ret = new ArrayList<>();
            for (int i = 0; i < delay; i++) {
                air.add(null);
                ret.add(null);
            }
        }

        Line copy() {
            Line l = new Line();
            l.state = state;
            l.noise = noise;
            l.delay = delay;
            l.unitsMost = unitsMost;
            l.octetsMost = octetsMost;
            l.limit = limit;
            for (Unit u : queue) {
                l.queue.add(u.copy());
            }
            for (Unit u : back) {
                l.back.add(u.copy());
            }
            l.air = new ArrayList<>(air);
            l.ret = new ArrayList<>(ret);
            l.hand = hand;
            l.next = next;
            l.expect = expect;
            l.bucket = bucket;
            l.good = good;
            l.proved = proved;
            l.bad = bad;
            l.tries = tries;
            l.forced = forced;
            return l;
        }

        int load() {
            return sum(back) + sum(queue);
        }

        static int sum(List<Unit> units) {
            return units.stream().mapToInt(u -> u.length).sum();
        }

        List<Unit> row() {
            List<Unit> row = new ArrayList<>(back);
            row.addAll(queue);
            return row;
        }
    }

    /** What a law looks at. */
    record Seen(int line, int length, int kept, int queue, int bucket, int delay, int tick,
                boolean filler, boolean forced, boolean repeat) { }

    record Clause(String kind, int n, Predicate<Seen> when) { }

    static final class State {
        List<Line> lines = new ArrayList<>();
        int texts, tick, taken, worth, told;
        int seed = 1;
        List<Clause> law;
        List<int[]> log = new ArrayList<>();

        State copy() {
            State s = new State();
            for (Line l : lines) {
                s.lines.add(l.copy());
            }
            s.texts = texts;
            s.tick = tick;
            s.taken = taken;
            s.worth = worth;
            s.told = told;
            s.seed = seed;
            s.law = law;
            s.log = new ArrayList<>(log);
            return s;
        }

        void note(int line, int what, int more) {
            log.add(new int[] {tick, line, what, more});
            if (log.size() > 60) {
                log.remove(0);
            }
        }

        int lawSum(String kind, Seen seen) {
            int sum = 0;
            if (law != null) {
                for (Clause c : law) {
                    if (c.kind.equals(kind) && c.when.test(seen)) {
                        sum += c.n;
                    }
                }
            }
            return sum;
        }

        Seen see(int i, int length, boolean filler, boolean forced, boolean repeat) {
            Line l = lines.get(i);
            return new Seen(i, length, l.back.size(), l.queue.size(), l.bucket, l.delay, tick % 100,
                    filler, forced, repeat);
        }

        int chance(int i, Seen seen) {
            int c = lines.get(i).noise + lawSum("spoil", seen) - lawSum("mend", seen);
            return Math.max(0, Math.min(100, c));
        }

        void step(boolean draws) {
            for (int i = 0; i < lines.size(); i++) {
                Line l = lines.get(i);
                if (l.state == 0) {
                    continue;
                }
                // (a)
                Sent came = l.air.remove(0);
                if (came != null) {
                    if (came.bad) {
                        l.bucket = Math.min(99, l.bucket + 1);
                        l.good = 0;
                    } else if (++l.good == 8) {
                        l.good = 0;
                        l.bucket = Math.max(0, l.bucket - 1);
                    }
                    if (!came.bad && came.unit != null && l.state == 2 && came.number == l.expect) {
                        boolean repeat = false;
                        for (Unit u : l.back) {
                            if (u.serial == came.unit.serial) {
                                repeat = u.times > 1;
                            }
                        }
                        Seen seen = see(i, came.unit.length, false, l.forced, repeat);
                        worth = Math.min(99999, worth + came.unit.length + lawSum("worth", seen));
                        taken++;
                        note(i, 0, came.unit.serial);
                        l.expect = (l.expect + 1) % 16;
                    }
                }
                // (b)
                if (l.state == 2) {
                    Integer told = l.ret.remove(0);
                    l.ret.add(l.expect);
                    if (told != null) {
                        int left = dropped(l, told);
                        l.hand = Math.max(0, l.hand - left);
                        if (l.back.isEmpty()) {
                            l.forced = false;
                        }
                        if (l.hand == l.back.size()) {
                            l.hand = 0;
                        }
                    }
                }
                // (c)
                Unit sent = null;
                boolean wasForced = l.forced;
                if (l.state == 2) {
                    if (l.forced) {
                        sent = l.back.get(l.hand++);
                    } else if (!l.queue.isEmpty() && l.back.size() < l.unitsMost
                            && l.queue.get(0).length + Line.sum(l.back) <= l.octetsMost) {
                        sent = l.queue.remove(0);
                        sent.number = l.next;
                        sent.times = 0;
                        l.next = (l.next + 1) % 16;
                        l.back.add(sent);
                    } else if (!l.queue.isEmpty()) {
                        l.forced = true;
                        wasForced = true;
                        note(i, 1, l.back.size());
                        l.hand = 1;
                        sent = l.back.get(0);
                    } else if (!l.back.isEmpty()) {
                        sent = l.back.get(l.hand++);
                    }
                    if (l.hand == l.back.size()) {
                        l.hand = 0;
                        l.forced = false;
                    }
                }
                // (d)
                Seen seen = sent == null ? see(i, 0, true, wasForced, false)
                        : see(i, sent.length, false, wasForced, sent.times > 0);
                if (sent != null) {
                    sent.times++;
                }
                int chance = chance(i, seen);
                boolean bad;
                if (draws) {
                    seed = 1103515245 * seed + 12345;
                    bad = ((seed >> 16) & 0x7fff) % 100 < chance;
                } else {
                    bad = chance == 100;
                }
                l.air.add(new Sent(sent, sent == null ? NONE : sent.number, bad));
                // (e)
                if (l.state == 2) {
                    if (l.bucket > l.limit) {
                        l.state = 0;
                        note(i, 2, l.bucket);
                        changeOver(i);
                    }
                } else {
                    l.proved++;
                    if (came != null && came.bad) {
                        l.bad++;
                    }
                    if (l.proved == 8) {
                        int was = l.bad;
                        if (l.bad <= 1) {
                            l.state = 2;
                            l.fresh();
                            note(i, 4, was);
                        } else {
                            l.proved = 0;
                            l.bad = 0;
                            if (++l.tries == 3) {
                                l.tries = 0;
                                l.state = 0;
                                note(i, 3, was);
                            }
                        }
                    }
                }
            }
            tick = Math.min(9999, tick + 1);
        }

        /** Drops what is ahead of a number that was told: how many. */
        static int dropped(Line l, int told) {
            int at = NONE;
            for (int k = l.back.size() - 1; k >= 0; k--) {
                if (l.back.get(k).number == told) {
                    at = k;
                }
            }
            int left = at != NONE ? at : told == l.next ? l.back.size() : 0;
            l.back.subList(0, left).clear();
            return left;
        }

        int changeOver(int i) {
            Line l = lines.get(i);
            dropped(l, l.expect);
            List<Unit> rest = l.row();
            l.back.clear();
            l.queue.clear();
            Line to = null;
            for (int j = 0; j < lines.size(); j++) {
                Line o = lines.get(j);
                if (j != i && o.state == 2 && (to == null || o.row().size() < to.row().size())) {
                    to = o;
                }
            }
            int found = 0;
            for (Unit u : rest) {
                Unit again = new Unit(u.serial, u.length);
                List<Unit> queue = to == null ? l.queue : to.queue;
                if (queue.size() < 96) {
                    queue.add(again);
                    found += to == null ? 0 : 1;
                }
            }
            l.fresh();
            note(i, 5, found);
            return found;
        }

        void run(int n, boolean draws) {
            for (int k = 0; k < n; k++) {
                step(draws);
            }
        }

        int states(int state) {
            int bits = 0;
            for (int i = 0; i < lines.size(); i++) {
                if (lines.get(i).state == state) {
                    bits += 1 << i;
                }
            }
            return bits;
        }
    }

    static final class Wrong extends Exception {
        private static final long serialVersionUID = 1L;
        final int at;

        Wrong(int at) {
            this.at = at;
        }
    }

    record Token(String text, int at) { }

    /** Reads by recursive descent over tokens. */
    static final class Parser {
        static final Pattern THING = Pattern.compile("[a-z]+|[0-9]+|[^ ]", Pattern.DOTALL);
        final List<Token> tokens = new ArrayList<>();
        int i;

        Parser(String text) {
            Matcher m = THING.matcher(text);
            while (m.find()) {
                tokens.add(new Token(m.group(), m.start()));
            }
            tokens.add(new Token("", text.length()));
        }

        String peek() {
            return tokens.get(i).text;
        }

        <T> T wrong() throws Wrong {
            throw new Wrong(tokens.get(i).at);
        }

        boolean eat(String word) {
            if (peek().equals(word)) {
                i++;
                return true;
            }
            return false;
        }

        void must(String word) throws Wrong {
            if (!eat(word)) {
                wrong();
            }
        }

        int number(int least, int most) throws Wrong {
            if (!peek().matches("[0-9]{1,3}")) {
                wrong();
            }
            int n = Integer.parseInt(peek());
            if (n < least || n > most) {
                wrong();
            }
            i++;
            return n;
        }

        interface Reader {
            void read() throws Wrong;
        }

        void list(int most, Reader reader) throws Wrong {
            if (peek().isEmpty()) {
                return;
            }
            int n = 0;
            do {
                if (n++ == most) {
                    wrong();
                }
                reader.read();
            } while (eat(";"));
            if (!peek().isEmpty()) {
                wrong();
            }
        }

        void lines(State s) throws Wrong {
            list(14, () -> {
                if (peek().equals("line")) {
                    if (s.lines.size() == 4) {
                        wrong();
                    }
                    i++;
                    Line l = new Line();
                    if (eat("noise")) {
                        l.noise = number(0, 100);
                    }
                    if (eat("delay")) {
                        l.delay = number(1, 4);
                    }
                    if (eat("units")) {
                        l.unitsMost = number(1, 8);
                    }
                    if (eat("octets")) {
                        l.octetsMost = number(9, 60);
                    }
                    if (eat("limit")) {
                        l.limit = number(1, 20);
                    }
                    if (eat("in")) {
                        l.state = 2;
                    } else if (eat("proving")) {
                        l.state = 1;
                    }
                    l.fresh();
                    s.lines.add(l);
                } else if (eat("units")) {
                    Line l = s.lines.isEmpty() ? wrong() : s.lines.get(number(0, s.lines.size() - 1));
                    must("of");
                    int n = 0;
                    do {
                        if (n++ == 12 || l.queue.size() >= 24) {
                            wrong();
                        }
                        l.queue.add(new Unit(s.told, number(1, 9)));
                        s.told++;
                    } while (peek().matches("[0-9]+"));
                } else if (eat("tick")) {
                    s.tick = number(0, 999);
                } else {
                    wrong();
                }
            });
        }

        List<Clause> law() throws Wrong {
            List<Clause> law = new ArrayList<>();
            list(12, () -> {
                String kind = peek();
                if (!kind.matches("spoil|mend|worth")) {
                    wrong();
                }
                i++;
                int n = number(0, 99);
                law.add(new Clause(kind, n, eat("if") ? condition(0) : seen -> true));
            });
            return law;
        }

        Predicate<Seen> condition(int deep) throws Wrong {
            Predicate<Seen> all = conjunction(deep);
            while (eat("or")) {
                all = all.or(conjunction(deep));
            }
            return all;
        }

        Predicate<Seen> conjunction(int deep) throws Wrong {
            Predicate<Seen> all = atom(deep);
            while (eat("and")) {
                all = all.and(atom(deep));
            }
            return all;
        }

        Predicate<Seen> atom(int deep) throws Wrong {
            if (peek().equals("not") || peek().equals("(")) {
                if (deep == 6) {
                    wrong();
                }
                if (eat("not")) {
                    return atom(deep + 1).negate();
                }
                must("(");
                Predicate<Seen> inner = condition(deep + 1);
                must(")");
                return inner;
            }
            if (eat("filler")) {
                return Seen::filler;
            }
            if (eat("forced")) {
                return Seen::forced;
            }
            if (eat("repeat")) {
                return Seen::repeat;
            }
            ToIntFunction<Seen> a = total();
            boolean less = peek().equals("<");
            if (!less && !peek().equals(">")) {
                wrong();
            }
            i++;
            ToIntFunction<Seen> b = total();
            return less ? seen -> a.applyAsInt(seen) < b.applyAsInt(seen)
                    : seen -> a.applyAsInt(seen) > b.applyAsInt(seen);
        }

        ToIntFunction<Seen> total() throws Wrong {
            ToIntFunction<Seen> sum = part();
            while (eat("+")) {
                ToIntFunction<Seen> so = sum;
                ToIntFunction<Seen> more = part();
                sum = seen -> so.applyAsInt(seen) + more.applyAsInt(seen);
            }
            return sum;
        }

        ToIntFunction<Seen> part() throws Wrong {
            if (eat("line")) {
                return Seen::line;
            }
            if (eat("length")) {
                return Seen::length;
            }
            if (eat("kept")) {
                return Seen::kept;
            }
            if (eat("queue")) {
                return Seen::queue;
            }
            if (eat("bucket")) {
                return Seen::bucket;
            }
            if (eat("delay")) {
                return Seen::delay;
            }
            if (eat("tick")) {
                return Seen::tick;
            }
            int n = number(0, 999);
            return seen -> n;
        }
    }

    // ---- the face ----

    private List<Integer> tape = new ArrayList<>();
    private State now = new State();
    private State image;
    private final List<State> acts = new ArrayList<>();
    private int fault = NONE;

    int feed(int a, int b, int c, int d, int e) {
        if (tape.size() > 380) {
            return NONE;
        }
        for (int n : new int[] {a, b, c, d, e}) {
            tape.add((n >> 24) & 255);
            tape.add((n >> 16) & 255);
            tape.add((n >> 8) & 255);
            tape.add(n & 255);
        }
        return tape.size();
    }

    boolean end(int n) {
        if (n < 0 || n > tape.size()) {
            return false;
        }
        tape = new ArrayList<>(tape.subList(0, n));
        return true;
    }

    private List<Integer> useTape() {
        List<Integer> used = tape;
        tape = new ArrayList<>();
        return used;
    }

    private Parser parser() {
        StringBuilder text = new StringBuilder();
        for (int b : useTape()) {
            text.append((char) b);
        }
        fault = NONE;
        return new Parser(text.toString());
    }

    int lines() {
        State s = now.copy();
        try {
            parser().lines(s);
        } catch (Wrong w) {
            fault = w.at;
            throw new IllegalArgumentException();
        }
        if (now.texts == 12) {
            throw new UnsupportedOperationException();
        }
        s.texts++;
        now = s;
        acts.clear();
        return now.texts;
    }

    int law() {
        try {
            now.law = parser().law();
        } catch (Wrong w) {
            fault = w.at;
            throw new IllegalArgumentException();
        }
        acts.clear();
        return now.law.size();
    }

    int fault() {
        return fault;
    }

    private Line get(int line) {
        if (line < 0 || line >= now.lines.size()) {
            throw new IndexOutOfBoundsException();
        }
        return now.lines.get(line);
    }

    int line(int line, int what) {
        Line l = get(line);
        if (what < 0 || what > 20) {
            throw new NoSuchElementException();
        }
        if (what == 18) {
            return comes(l);
        }
        if (what == 19) {
            int[] got = new int[9];
            for (int w = 1; w <= 8; w++) {
                State s = now.copy();
                s.lines.get(line).unitsMost = w;
                s.run(60, false);
                got[w] = s.taken;
            }
            int best = Arrays.stream(got).max().getAsInt();
            for (int w = 1; w <= 8; w++) {
                if (got[w] == best) {
                    return w;
                }
            }
        }
        if (what == 20) {
            int all = now.lines.stream().mapToInt(Line::load).sum();
            return all == 0 ? 0 : l.load() * 100 / all;
        }
        return new int[] {l.state, l.noise, l.delay, l.unitsMost, l.octetsMost, l.limit, l.queue.size(),
            l.back.size(), l.hand, l.forced ? 1 : 0, l.next, l.expect, l.bucket, l.good, l.proved, l.bad,
            l.tries, l.load()}[what];
    }

    private int comes(Line l) {
        if (l.state != 2) {
            return NONE;
        }
        if (l.forced) {
            return l.back.get(l.hand).serial;
        }
        if (!l.queue.isEmpty()) {
            Unit first = l.queue.get(0);
            boolean fits = l.back.size() < l.unitsMost && first.length + Line.sum(l.back) <= l.octetsMost;
            return fits ? first.serial : l.back.get(0).serial;
        }
        return l.back.isEmpty() ? NONE : l.back.get(l.hand).serial;
    }

    int unit(int line, int k, int what) {
        List<Unit> row = get(line).row();
        if (what < 0 || what > 2) {
            throw new NoSuchElementException();
        }
        if (k < 0 || k >= row.size()) {
            return NONE;
        }
        Unit u = row.get(k);
        return what == 0 ? u.serial : what == 1 ? u.length : u.number;
    }

    int air(int line, int k, int what) {
        Line l = get(line);
        if (what < 0 || what > 3) {
            throw new NoSuchElementException();
        }
        if (k < 0 || k >= l.air.size()) {
            return NONE;
        }
        Sent s = l.air.get(k);
        if (s == null) {
            return what == 0 || what == 3 ? 0 : NONE;
        }
        if (what == 0) {
            return s.unit == null ? 1 : 2;
        }
        if (what == 1) {
            return s.unit == null ? NONE : s.unit.serial;
        }
        return what == 2 ? s.number : s.bad ? 1 : 0;
    }

    int reply(int line, int k) {
        Line l = get(line);
        return k < 0 || k >= l.ret.size() || l.ret.get(k) == null ? NONE : l.ret.get(k);
    }

    private void act() {
        acts.add(now.copy());
        if (acts.size() > 12) {
            acts.remove(0);
        }
    }

    int ticks(int n) {
        if (n < 1 || n > 60) {
            throw new IllegalArgumentException();
        }
        act();
        int was = now.taken;
        now.run(n, true);
        return now.taken - was;
    }

    int tell(int line, int length) {
        Line l = get(line);
        if (length < 1 || length > 9) {
            throw new IllegalArgumentException();
        }
        if (l.queue.size() >= 24) {
            throw new IllegalStateException();
        }
        act();
        l.queue.add(new Unit(now.told, length));
        return now.told++;
    }

    int start(int line) {
        Line l = get(line);
        if (l.state != 0) {
            throw new IllegalStateException();
        }
        act();
        l.state = 1;
        l.proved = l.bad = l.tries = l.bucket = l.good = 0;
        return (int) now.lines.stream().filter(o -> o.state == 1).count();
    }

    int shut(int line) {
        Line l = get(line);
        if (l.state == 0) {
            throw new IllegalStateException();
        }
        act();
        l.state = 0;
        return now.changeOver(line);
    }

    int tune(int line, int what, int n) {
        Line l = get(line);
        int[][] bounds = {{0, 100}, {1, 8}, {9, 60}, {1, 20}};
        if (what < 0 || what > 3) {
            throw new NoSuchElementException();
        }
        if (n < bounds[what][0] || n > bounds[what][1]) {
            throw new IllegalArgumentException();
        }
        act();
        int was = new int[] {l.noise, l.unitsMost, l.octetsMost, l.limit}[what];
        if (what == 0) {
            l.noise = n;
        } else if (what == 1) {
            l.unitsMost = n;
        } else if (what == 2) {
            l.octetsMost = n;
        } else {
            l.limit = n;
        }
        return was;
    }

    int chance(int line) {
        Line l = get(line);
        return now.chance(line, now.see(line, 0, true, l.forced, false));
    }

    int clear() {
        State s = now.copy();
        for (int n = 0; n <= 60; n++) {
            if (s.lines.stream().allMatch(l -> l.row().isEmpty())) {
                return n;
            }
            s.step(false);
        }
        return NONE;
    }

    int split(int k) {
        List<Integer> units = new ArrayList<>();
        for (Line l : now.lines) {
            for (Unit u : l.queue) {
                if (units.size() < 8) {
                    units.add(u.length);
                }
            }
        }
        List<Integer> to = new ArrayList<>();
        for (int i = 0; i < now.lines.size(); i++) {
            if (now.lines.get(i).state == 2) {
                to.add(i);
            }
        }
        if (units.isEmpty()) {
            return k == NONE ? 0 : NONE;
        }
        if (to.isEmpty()) {
            return NONE;
        }
        int ways = (int) Math.round(Math.pow(to.size(), units.size()));
        int least = 1000;
        int[] best = null;
        for (int way = 0; way < ways; way++) {
            int[] on = new int[units.size()];
            int[] sums = new int[to.size()];
            int rest = way;
            for (int u = units.size() - 1; u >= 0; u--) {
                on[u] = rest % to.size();
                rest /= to.size();
                sums[on[u]] += units.get(u);
            }
            int most = Arrays.stream(sums).max().getAsInt();
            if (most < least) {
                least = most;
                best = on;
            }
        }
        return k == NONE ? least : k < 0 || k >= units.size() ? NONE : to.get(best[k]);
    }

    int takes(boolean wants) {
        List<Integer> told = useTape();
        if (told.size() > 40 || told.stream().anyMatch(b -> b > 15)) {
            throw new IllegalArgumentException();
        }
        int expect = 0;
        int taken = 0;
        for (int b : told) {
            if (b == expect) {
                expect = (expect + 1) % 16;
                taken++;
            }
        }
        return wants ? expect : taken;
    }

    /** Of each period and phase: the period, the phase, how many rows are wrong. */
    private List<int[]> guesses() {
        List<Integer> told = useTape();
        if (told.size() > 40 || told.size() % 2 == 1) {
            throw new IllegalArgumentException();
        }
        for (int i = 0; i < told.size(); i += 2) {
            if (told.get(i) > 99 || told.get(i + 1) > 1) {
                throw new IllegalArgumentException();
            }
        }
        List<int[]> guesses = new ArrayList<>();
        for (int p = 1; p <= 12; p++) {
            for (int phase = 0; phase < p; phase++) {
                int wrong = 0;
                for (int i = 0; i < told.size(); i += 2) {
                    int due = told.get(i) % p == phase ? 1 : 0;
                    wrong += due != told.get(i + 1) ? 1 : 0;
                }
                if (wrong < 2) {
                    guesses.add(new int[] {p, phase, wrong});
                }
            }
        }
        return guesses;
    }

    int period() {
        return guesses().size();
    }

    int likely() {
        List<int[]> guesses = guesses();
        for (int wrong = 0; wrong < 2; wrong++) {
            for (int[] g : guesses) {
                if (g[2] == wrong) {
                    return 12 * (g[0] - 1) + g[1];
                }
            }
        }
        return NONE;
    }

    int probe() {
        List<int[]> guesses = guesses();
        if (guesses.size() < 2) {
            return NONE;
        }
        int best = NONE;
        int least = 1000;
        for (int t = 0; t < 100; t++) {
            int tick = t;
            int hit = (int) guesses.stream().filter(g -> tick % g[0] == g[1]).count();
            int greater = Math.max(hit, guesses.size() - hit);
            if (greater < least) {
                least = greater;
                best = t;
            }
        }
        return best;
    }

    int pairs(int line) {
        if (line != NONE) {
            get(line);
        }
        int n = now.lines.size();
        int codes = (int) Math.round(Math.pow(n + 1, n));
        int most = NONE;
        int[] best = null;
        for (int code = 0; code < codes; code++) {
            int[] with = new int[n];
            int rest = code;
            for (int i = n - 1; i >= 0; i--) {
                with[i] = rest % (n + 1) - 1;
                rest /= n + 1;
            }
            int sum = 0;
            boolean right = true;
            for (int i = 0; i < n; i++) {
                if (with[i] != NONE) {
                    right &= with[i] != i && with[with[i]] == i && now.lines.get(i).state == 2;
                    if (with[i] > i) {
                        sum += 100 - Math.min(now.lines.get(i).noise, now.lines.get(with[i]).noise);
                    }
                }
            }
            if (right && sum > most) {
                most = sum;
                best = with;
            }
        }
        return line == NONE ? most : best[line];
    }

    int share(int line, int n) {
        get(line);
        if (n < 0 || n > 99) {
            throw new IllegalArgumentException();
        }
        int[] has = new int[now.lines.size()];
        for (int k = 0; k < n; k++) {
            int to = 0;
            for (int i = 1; i < has.length; i++) {
                if (now.lines.get(i).octetsMost / (has[i] + 1) > now.lines.get(to).octetsMost / (has[to] + 1)) {
                    to = i;
                }
            }
            has[to]++;
        }
        return has[line];
    }

    int rests(int line) {
        Line l = get(line);
        int[][] keeper = {{-l.back.size(), l.queue.size()}, {1, 0}};
        int[][] noise = {{2, 0}, {-l.bucket, 1}};
        int bits = 0;
        for (int a = 0; a < 2; a++) {
            for (int b = 0; b < 2; b++) {
                if (keeper[1 - a][b] <= keeper[a][b] && noise[a][1 - b] <= noise[a][b]) {
                    bits |= 1 << 2 * a + b;
                }
            }
        }
        return bits;
    }

    int odds(int line, int n, int k) {
        get(line);
        if (n < 0 || n > 5 || k < 0 || k > 5) {
            throw new IllegalArgumentException();
        }
        long c = chance(line);
        // by how many bad so far: in hundredths to the n
        long[] ways = new long[7];
        ways[0] = 1;
        long all = 1;
        for (int i = 0; i < n; i++) {
            for (int j = 6; j >= 0; j--) {
                ways[j] = ways[j] * (100 - c) + (j > 0 ? ways[j - 1] * c : 0);
            }
            all *= 100;
        }
        long sum = 0;
        for (int j = k; j < 7; j++) {
            sum += ways[j];
        }
        return (int) (sum * 10000 / all);
    }

    int most(int what) {
        if (what < 0 || what > 2) {
            throw new NoSuchElementException();
        }
        int best = NONE;
        int value = NONE;
        for (int i = 0; i < now.lines.size(); i++) {
            Line l = now.lines.get(i);
            int has = new int[] {l.load(), l.noise, l.bucket}[what];
            if (has > value) {
                value = has;
                best = i;
            }
        }
        return best;
    }

    int byState(int state) {
        if (state < 0 || state > 2) {
            throw new NoSuchElementException();
        }
        return now.states(state);
    }

    int twins() {
        int n = 0;
        for (Line a : now.lines) {
            for (Line b : now.lines) {
                if (a != b && a.noise == b.noise && a.delay == b.delay) {
                    n++;
                }
            }
        }
        return n / 2;
    }

    int ahead(int line, int n) {
        if (line != NONE) {
            get(line);
        }
        bound(n);
        State s = now.copy();
        s.run(n, false);
        return line == NONE ? s.taken : s.lines.get(line).row().size();
    }

    private static void bound(int n) {
        if (n < 0 || n > 60) {
            throw new IllegalArgumentException();
        }
    }

    int trial(int n, boolean in) {
        bound(n);
        State s = now.copy();
        s.run(n, true);
        return in ? s.states(2) : s.taken;
    }

    int span(int n, boolean most) {
        bound(n);
        List<Integer> got = new ArrayList<>();
        for (int seed = 1; seed <= 6; seed++) {
            State s = now.copy();
            s.seed = seed;
            s.run(n, true);
            got.add(s.taken);
        }
        got.sort(null);
        return got.get(most ? 5 : 0);
    }

    int led(int line, boolean tick) {
        get(line);
        int n = 0;
        int latest = NONE;
        for (int[] row : now.log) {
            if (row[1] == line) {
                n++;
                latest = row[0];
            }
        }
        return tick ? latest : n;
    }

    int log(int ago, int what) {
        if (what < 0 || what > 3) {
            throw new NoSuchElementException();
        }
        int i = now.log.size() - 1 - ago;
        return ago < 0 || i < 0 ? NONE : now.log.get(i)[what];
    }

    int seed(int n) {
        int was = now.seed;
        now.seed = n;
        return was;
    }

    boolean undo() {
        if (acts.isEmpty()) {
            return false;
        }
        now = acts.remove(acts.size() - 1);
        return true;
    }

    void image() {
        image = now.copy();
    }

    boolean back() {
        if (image == null) {
            return false;
        }
        now = image.copy();
        acts.clear();
        return true;
    }

    int count(int what) {
        switch (what) {
            case 0: return now.lines.size();
            case 1: return now.texts;
            case 2: return now.law == null ? NONE : now.law.size();
            case 3: return now.tick;
            case 4: return now.taken;
            case 5: return now.worth;
            case 6: return now.lines.stream().mapToInt(l -> l.queue.size()).sum();
            case 7: return now.lines.stream().mapToInt(l -> l.back.size()).sum();
            case 8: return now.told;
            case 9: return now.log.size();
            case 10: return acts.size();
            default: return NONE;
        }
    }
}
