import java.util.NoSuchElementException;

/** Signalling lines that send again whatever the far end has not told to have. */
public final class CyclicLines {
    public static final int NONE = -1;

    private static final int OUT = 0;
    private static final int PROVING = 1;
    private static final int IN = 2;

    private static final int LINES_MOST = 4;
    private static final int NOISE_MOST = 100;
    private static final int DELAY_MOST = 4;
    private static final int UNITS_MOST = 8;
    private static final int OCTETS_LEAST = 9;
    private static final int OCTETS_MOST = 60;
    private static final int LIMIT_MOST = 20;
    private static final int LENGTH_MOST = 9;
    private static final int NUMBERS = 16;
    private static final int TOLD_MOST = 24;
    private static final int QUEUE_MOST = 96;
    private static final int BUCKET_MOST = 99;
    private static final int TICK_MOST = 9999;
    private static final int WORTH_MOST = 99999;
    private static final int EIGHTH = 8;
    private static final int TRIES_MOST = 3;

    private static final int TAPE_MOST = 400;
    private static final int FEED = 20;
    private static final int TEXTS_MOST = 12;
    private static final int ACTS_MOST = 12;
    private static final int TICKS_MOST = 60;
    private static final int SHARE_MOST = 99;
    private static final int ODDS_MOST = 5;
    private static final int SEEDS = 6;
    private static final int TAKES_MOST = 40;

    private static final int TAKEN_ROW = 0;
    private static final int FORCED_ROW = 1;
    private static final int OUT_OF_IN_ROW = 2;
    private static final int OUT_OF_PROVING_ROW = 3;
    private static final int IN_ROW = 4;
    private static final int CHANGED_ROW = 5;

    private static final int NOTHING = 0;
    private static final int FILLER = 1;
    private static final int UNIT = 2;

    private static final int SPOIL = 0;
    private static final int MEND = 1;
    private static final int WORTH = 2;

    // What a law may ask of something sent: places in the row of facts.
    private static final int OF_LINE = 0;
    private static final int OF_LENGTH = 1;
    private static final int OF_KEPT = 2;
    private static final int OF_QUEUE = 3;
    private static final int OF_BUCKET = 4;
    private static final int OF_DELAY = 5;
    private static final int OF_TICK = 6;
    private static final int OF_FILLER = 7;
    private static final int OF_FORCED = 8;
    private static final int OF_REPEAT = 9;
    private static final int FACTS = 10;

    private static final Word[] WORDS = Word.values();

    private final int[] tape = new int[TAPE_MOST];
    private final Law lawNow = new Law();
    private final Law lawRead = new Law();
    private final Law lawKept = new Law();
    private final World now = new World();
    private final World tried = new World();
    private final World kept = new World();
    private final World[] remembered = new World[ACTS_MOST];
    private final Text text = new Text();
    private final Period rows = new Period();
    private final Ways ways = new Ways();
    private final int[] shares = new int[LINES_MOST];
    private int tapeSize;
    private int wrongAt = NONE;
    private boolean hasImage;
    private int latestAct;
    private int acts;

    public CyclicLines() {
        for (int i = 0; i < remembered.length; i++) {
            remembered[i] = new World();
        }
    }

    // ---- the tape ----

    public int feed(int a, int b, int c, int d, int e) {
        if (tapeSize + FEED > TAPE_MOST) {
            return NONE;
        }
        putBytes(a);
        putBytes(b);
        putBytes(c);
        putBytes(d);
        putBytes(e);
        return tapeSize;
    }

    private void putBytes(int number) {
        for (int shift = 24; shift >= 0; shift -= 8) {
            put(tape, tapeSize, number >>> shift & 255);
            tapeSize++;
        }
    }

    public boolean end(int n) {
        if (n < 0 || n > tapeSize) {
            return false;
        }
        tapeSize = n;
        return true;
    }

    // ---- texts ----

    public int lines() throws IllegalArgumentException, UnsupportedOperationException {
        readTape();
        tried.copyFrom(now);
        tried.readLines(text);
        wrongAt = text.wrongAt;
        if (wrongAt != NONE) {
            throw new IllegalArgumentException("the text is wrong");
        }
        if (now.texts >= TEXTS_MOST) {
            throw new UnsupportedOperationException("there are 12 texts");
        }
        now.copyFrom(tried);
        now.texts++;
        acts = 0;
        return now.texts;
    }

    public int law() throws IllegalArgumentException {
        readTape();
        lawRead.readFrom(text);
        wrongAt = text.wrongAt;
        if (wrongAt != NONE) {
            throw new IllegalArgumentException("the text is wrong");
        }
        lawNow.copyFrom(lawRead);
        acts = 0;
        return lawNow.size;
    }

    private void readTape() {
        text.readFrom(tape, tapeSize);
        tapeSize = 0;
    }

    public int fault() {
        return wrongAt;
    }

    // ---- what there is ----

    private Line lineOf(int line) {
        if (line < 0 || line >= now.size) {
            throw new IndexOutOfBoundsException("there is no such line");
        }
        return now.lineAt(line);
    }

    public int line(int line, int what) throws IndexOutOfBoundsException, NoSuchElementException {
        Line of = lineOf(line);
        switch (what) {
            case 0: return of.state;
            case 1: return of.noise;
            case 2: return of.delay;
            case 3: return of.unitsMost;
            case 4: return of.octetsMost;
            case 5: return of.limit;
            case 6: return of.queue.size;
            case 7: return of.back.size;
            case 8: return of.hand;
            case 9: return of.forced ? 1 : 0;
            case 10: return of.next;
            case 11: return of.expect;
            case 12: return of.bucket;
            case 13: return of.good;
            case 14: return of.proved;
            case 15: return of.bad;
            case 16: return of.tries;
            case 17: return of.load();
            case 18: return of.comes();
            case 19: return windowOf(line);
            case 20: return partOf(of);
            default: throw new NoSuchElementException("there is no such thing of a line");
        }
    }

    private int windowOf(int line) {
        int window = 1;
        int most = NONE;
        for (int units = 1; units <= UNITS_MOST; units++) {
            tried.copyFrom(now);
            tried.lineAt(line).unitsMost = units;
            tried.pass(TICKS_MOST, lawNow, false);
            if (tried.taken > most) {
                most = tried.taken;
                window = units;
            }
        }
        return window;
    }

    private int partOf(Line of) {
        int all = 0;
        for (int i = 0; i < now.size; i++) {
            all += now.lineAt(i).load();
        }
        return all > 0 ? 100 * of.load() / all : 0;
    }

    public int unit(int line, int k, int what) throws IndexOutOfBoundsException, NoSuchElementException {
        Line of = lineOf(line);
        if (what < 0 || what > 2) {
            throw new NoSuchElementException("there is no such thing of a unit");
        }
        int sent = of.back.size;
        if (k < 0 || k >= of.row()) {
            return NONE;
        }
        Units units = k < sent ? of.back : of.queue;
        int place = k < sent ? k : k - sent;
        switch (what) {
            case 0: return at(units.serials, place);
            case 1: return at(units.lengths, place);
            default: return k < sent ? at(units.numbers, place) : NONE;
        }
    }

    public int air(int line, int k, int what) throws IndexOutOfBoundsException, NoSuchElementException {
        Line of = lineOf(line);
        if (what < 0 || what > 3) {
            throw new NoSuchElementException("there is no such thing of a place");
        }
        if (k < 0 || k >= of.delay) {
            return NONE;
        }
        int kind = at(of.air.kinds, k);
        switch (what) {
            case 0: return kind;
            case 1: return kind == UNIT ? at(of.air.serials, k) : NONE;
            case 2: return kind == UNIT ? at(of.air.numbers, k) : NONE;
            default: return kind != NOTHING && of.air.isBad(k) ? 1 : 0;
        }
    }

    public int reply(int line, int k) throws IndexOutOfBoundsException {
        Line of = lineOf(line);
        return k >= 0 && k < of.delay ? at(of.replies, k) : NONE;
    }

    // ---- acts ----

    private void remember() {
        latestAct = (latestAct + 1) % ACTS_MOST;
        rememberedAt(latestAct).copyFrom(now);
        if (acts < ACTS_MOST) {
            acts++;
        }
    }

    private World rememberedAt(int i) {
        World world = i >= 0 && i < remembered.length ? remembered[i] : null;
        return world != null ? world : tried;
    }

    public int ticks(int n) throws IllegalArgumentException {
        if (n < 1 || n > TICKS_MOST) {
            throw new IllegalArgumentException("ticks are 1 to 60");
        }
        remember();
        int before = now.taken;
        now.pass(n, lawNow, true);
        return now.taken - before;
    }

    public int tell(int line, int length)
            throws IndexOutOfBoundsException, IllegalArgumentException, IllegalStateException {
        Line of = lineOf(line);
        if (length < 1 || length > LENGTH_MOST) {
            throw new IllegalArgumentException("a length is 1 to 9");
        }
        if (of.queue.size >= TOLD_MOST) {
            throw new IllegalStateException("the queue has 24 units");
        }
        remember();
        return now.tellUnit(of, length);
    }

    public int start(int line) throws IndexOutOfBoundsException, IllegalStateException {
        Line of = lineOf(line);
        if (of.state != OUT) {
            throw new IllegalStateException("the line is not out");
        }
        remember();
        of.prove();
        return Integer.bitCount(now.inState(PROVING));
    }

    public int shut(int line) throws IndexOutOfBoundsException, IllegalStateException {
        Line of = lineOf(line);
        if (of.state == OUT) {
            throw new IllegalStateException("the line is out");
        }
        remember();
        of.state = OUT;
        return now.changeOver(line);
    }

    public int tune(int line, int what, int n)
            throws IndexOutOfBoundsException, NoSuchElementException, IllegalArgumentException {
        Line of = lineOf(line);
        if (what < 0 || what > 3) {
            throw new NoSuchElementException("there is no such thing to tune");
        }
        if (!mayBeTuned(what, n)) {
            throw new IllegalArgumentException("the number is out of its bounds");
        }
        remember();
        int was;
        switch (what) {
            case 0:
                was = of.noise;
                of.noise = n;
                break;
            case 1:
                was = of.unitsMost;
                of.unitsMost = n;
                break;
            case 2:
                was = of.octetsMost;
                of.octetsMost = n;
                break;
            default:
                was = of.limit;
                of.limit = n;
                break;
        }
        return was;
    }

    private static boolean mayBeTuned(int what, int n) {
        switch (what) {
            case 0: return n >= 0 && n <= NOISE_MOST;
            case 1: return n >= 1 && n <= UNITS_MOST;
            case 2: return n >= OCTETS_LEAST && n <= OCTETS_MOST;
            default: return n >= 1 && n <= LIMIT_MOST;
        }
    }

    // ---- questions ----

    public int chance(int line) throws IndexOutOfBoundsException {
        lineOf(line);
        return now.fillerChance(line, lawNow);
    }

    public int clear() {
        tried.copyFrom(now);
        for (int n = 0; n <= TICKS_MOST; n++) {
            if (tried.isClear()) {
                return n;
            }
            tried.pass(1, lawNow, false);
        }
        return NONE;
    }

    public int split(int k) {
        int greatest = ways.splitUnits(now);
        return k == NONE ? greatest : ways.lineOfUnit(k);
    }

    public int takes(boolean wants) throws IllegalArgumentException {
        boolean right = tapeSize <= TAKES_MOST;
        int taken = 0;
        for (int i = 0; i < tapeSize; i++) {
            int number = at(tape, i);
            if (number >= NUMBERS) {
                right = false;
            }
            if (number == taken % NUMBERS) {
                taken++;
            }
        }
        tapeSize = 0;
        if (!right) {
            throw new IllegalArgumentException("the tape is no numbers");
        }
        return wants ? taken % NUMBERS : taken;
    }

    private void readRows() {
        boolean right = rows.readFrom(tape, tapeSize);
        tapeSize = 0;
        if (!right) {
            throw new IllegalArgumentException("the tape is no rows");
        }
    }

    public int period() throws IllegalArgumentException {
        readRows();
        return rows.howMany();
    }

    public int likely() throws IllegalArgumentException {
        readRows();
        return rows.first();
    }

    public int probe() throws IllegalArgumentException {
        readRows();
        return rows.parting();
    }

    public int pairs(int line) throws IndexOutOfBoundsException {
        if (line != NONE) {
            lineOf(line);
        }
        int most = ways.pairLines(now);
        return line == NONE ? most : ways.partnerOf(line);
    }

    public int share(int line, int n) throws IndexOutOfBoundsException, IllegalArgumentException {
        lineOf(line);
        if (n < 0 || n > SHARE_MOST) {
            throw new IllegalArgumentException("units to share are 0 to 99");
        }
        clearRow(shares, 0);
        for (int i = 0; i < n; i++) {
            int to = nextShare();
            put(shares, to, at(shares, to) + 1);
        }
        return at(shares, line);
    }

    private int nextShare() {
        int to = 0;
        int most = NONE;
        for (int i = 0; i < now.size; i++) {
            int parts = at(shares, i) + 1;
            int part = parts > 0 ? now.lineAt(i).octetsMost / parts : 0;
            if (part > most) {
                most = part;
                to = i;
            }
        }
        return to;
    }

    public int rests(int line) throws IndexOutOfBoundsException {
        Line of = lineOf(line);
        int bits = 0;
        for (int choice = 0; choice < 4; choice++) {
            // The keeper's bit is the upper one, so 2 turns his choice and 1 the noise's.
            boolean keeperRests = keeperHas(of, choice) >= keeperHas(of, choice ^ 2);
            boolean noiseRests = noiseHas(of, choice) >= noiseHas(of, choice ^ 1);
            if (keeperRests && noiseRests) {
                bits |= 1 << choice;
            }
        }
        return bits;
    }

    private static int keeperHas(Line of, int choice) {
        switch (choice) {
            case 0: return -of.back.size;
            case 1: return of.queue.size;
            case 2: return 1;
            default: return 0;
        }
    }

    private static int noiseHas(Line of, int choice) {
        switch (choice) {
            case 0: return 2;
            case 1: return 0;
            case 2: return -of.bucket;
            default: return 1;
        }
    }

    public int odds(int line, int n, int k) throws IndexOutOfBoundsException, IllegalArgumentException {
        lineOf(line);
        if (n < 0 || n > ODDS_MOST || k < 0 || k > ODDS_MOST) {
            throw new IllegalArgumentException("fillers are 0 to 5");
        }
        int chance = now.fillerChance(line, lawNow);
        long holds = 0;
        long all = 1;
        for (int i = 0; i < n; i++) {
            all *= 100;
        }
        for (int bad = k; bad <= n; bad++) {
            holds += exactly(n, bad, chance);
        }
        return all > 0 ? (int) (holds * 10000 / all) : 0;
    }

    /** Of a hundred to the n ways, those in which just so many are bad. */
    private static long exactly(int n, int bad, int chance) {
        long waysOf = 1;
        for (int i = 0; i < bad; i++) {
            waysOf = waysOf * (n - i) / (i + 1);
        }
        for (int i = 0; i < n; i++) {
            waysOf *= i < bad ? chance : 100 - chance;
        }
        return waysOf;
    }

    public int most(int what) throws NoSuchElementException {
        if (what < 0 || what > 2) {
            throw new NoSuchElementException("there is no such most");
        }
        int found = NONE;
        int most = NONE;
        for (int i = 0; i < now.size; i++) {
            Line of = now.lineAt(i);
            int has = what == 0 ? of.load() : what == 1 ? of.noise : of.bucket;
            if (has > most) {
                most = has;
                found = i;
            }
        }
        return found;
    }

    public int byState(int state) throws NoSuchElementException {
        if (state < OUT || state > IN) {
            throw new NoSuchElementException("there is no such state");
        }
        return now.inState(state);
    }

    public int twins() {
        int pairsFound = 0;
        for (int i = 0; i < now.size; i++) {
            for (int j = i + 1; j < now.size; j++) {
                Line one = now.lineAt(i);
                Line other = now.lineAt(j);
                if (one.noise == other.noise && one.delay == other.delay) {
                    pairsFound++;
                }
            }
        }
        return pairsFound;
    }

    public int ahead(int line, int n) throws IndexOutOfBoundsException, IllegalArgumentException {
        if (line != NONE) {
            lineOf(line);
        }
        needTicks(n);
        tried.copyFrom(now);
        tried.pass(n, lawNow, false);
        return line == NONE ? tried.taken : tried.lineAt(line).row();
    }

    private static void needTicks(int n) {
        if (n < 0 || n > TICKS_MOST) {
            throw new IllegalArgumentException("ticks are 0 to 60");
        }
    }

    public int trial(int n, boolean in) throws IllegalArgumentException {
        needTicks(n);
        tried.copyFrom(now);
        tried.pass(n, lawNow, true);
        return in ? tried.inState(IN) : tried.taken;
    }

    public int span(int n, boolean most) throws IllegalArgumentException {
        needTicks(n);
        int found = 0;
        for (int seedFrom = 1; seedFrom <= SEEDS; seedFrom++) {
            tried.copyFrom(now);
            tried.seedNow = seedFrom;
            tried.pass(n, lawNow, true);
            boolean better = most ? tried.taken > found : tried.taken < found;
            if (seedFrom == 1 || better) {
                found = tried.taken;
            }
        }
        return found;
    }

    public int led(int line, boolean tick) throws IndexOutOfBoundsException {
        lineOf(line);
        int found = 0;
        int latest = NONE;
        for (int ago = 0; ago < now.journal.size; ago++) {
            if (now.journal.told(ago, 1) == line) {
                latest = found == 0 ? now.journal.told(ago, 0) : latest;
                found++;
            }
        }
        return tick ? latest : found;
    }

    public int log(int ago, int what) throws NoSuchElementException {
        if (what < 0 || what >= Journal.WIDTH) {
            throw new NoSuchElementException("there is no such thing of a row");
        }
        return now.journal.told(ago, what);
    }

    // ---- seed, undo, image, count ----

    public int seed(int n) {
        int was = now.seedNow;
        now.seedNow = n;
        return was;
    }

    public boolean undo() {
        if (acts <= 0) {
            return false;
        }
        now.copyFrom(rememberedAt(latestAct));
        latestAct = (latestAct + ACTS_MOST - 1) % ACTS_MOST;
        acts--;
        return true;
    }

    public void image() {
        kept.copyFrom(now);
        lawKept.copyFrom(lawNow);
        hasImage = true;
    }

    public boolean back() {
        if (!hasImage) {
            return false;
        }
        now.copyFrom(kept);
        lawNow.copyFrom(lawKept);
        acts = 0;
        return true;
    }

    public int count(int what) {
        switch (what) {
            case 0: return now.size;
            case 1: return now.texts;
            case 2: return lawNow.size;
            case 3: return now.tick;
            case 4: return now.taken;
            case 5: return now.worth;
            case 6: return now.queued();
            case 7: return now.unitsKept();
            case 8: return now.told;
            case 9: return now.journal.size;
            case 10: return acts;
            default: return NONE;
        }
    }

    // ---- rows of numbers ----

    private static int at(int[] row, int i) {
        return row != null && i >= 0 && i < row.length ? row[i] : 0;
    }

    private static void put(int[] row, int i, int value) {
        if (row != null && i >= 0 && i < row.length) {
            row[i] = value;
        }
    }

    private static void clearRow(int[] row, int value) {
        for (int i = 0; i < row.length; i++) {
            row[i] = value;
        }
    }

    private static void copyRow(int[] from, int[] to, int n) {
        if (n > 0 && n <= from.length && n <= to.length) {
            System.arraycopy(from, 0, to, 0, n);
        }
    }

    /** Brings all behind the first n places so many places ahead. */
    private static void shiftRow(int[] row, int n) {
        if (n > 0 && n <= row.length) {
            System.arraycopy(row, n, row, 0, row.length - n);
        }
    }

    /** Makes room at the first place; what was in the last one goes. */
    private static void openRow(int[] row) {
        if (row.length > 1) {
            System.arraycopy(row, 0, row, 1, row.length - 1);
        }
    }

    // ---- texts ----

    /** What may stand in a text; a word that a law may ask for has its place in the facts. */
    private enum Word {
        END(""), WRONG(""), NUMBER(""),
        SEMICOLON(";"), OPEN("("), CLOSE(")"), LESS("<"), MORE(">"), PLUS("+"),
        LINE("line", OF_LINE), NOISE("noise"), DELAY("delay", OF_DELAY), UNITS("units"),
        OCTETS("octets"), LIMIT("limit"), IN_STATE("in"), PROVING_STATE("proving"), OF("of"),
        TICK("tick", OF_TICK), SPOIL_LINE("spoil"), MEND_LINE("mend"), WORTH_LINE("worth"),
        IF("if"), OR("or"), AND("and"), NOT("not"),
        FILLS("filler", OF_FILLER), FORCED("forced", OF_FORCED), REPEAT("repeat", OF_REPEAT),
        LENGTH("length", OF_LENGTH), KEPT("kept", OF_KEPT), QUEUE("queue", OF_QUEUE),
        BUCKET("bucket", OF_BUCKET);

        private final String written;
        private final int fact;

        Word(String written) {
            this(written, NONE);
        }

        Word(String written, int fact) {
            this.written = written;
            this.fact = fact;
        }
    }

    /** The things of a text one by one, and where the first is that cannot stand. */
    private static final class Text {
        private static final int DIGITS_MOST = 3;

        private final Word[] words = new Word[TAPE_MOST + 1];
        private final int[] begins = new int[TAPE_MOST + 1];
        private final int[] values = new int[TAPE_MOST + 1];
        private int size;
        private int place;
        private int wrongAt = NONE;

        void readFrom(int[] bytes, int n) {
            size = 0;
            place = 0;
            wrongAt = NONE;
            int from = 0;
            for (int things = 0; things < n && from < n; things++) {
                int to = endOf(bytes, from, n);
                if (at(bytes, from) != ' ') {
                    addThing(bytes, from, to);
                }
                from = to;
            }
            put(begins, size, n);
        }

        /** Behind the letters, or the digits, or the one byte, that begin there. */
        private static int endOf(int[] bytes, int from, int n) {
            int to = from + 1;
            int kind = kindOf(at(bytes, from));
            while (kind != 0 && to < n && kindOf(at(bytes, to)) == kind) {
                to++;
            }
            return to;
        }

        private static int kindOf(int sign) {
            return sign >= 'a' && sign <= 'z' ? 1 : sign >= '0' && sign <= '9' ? 2 : 0;
        }

        private void addThing(int[] bytes, int from, int to) {
            if (size >= TAPE_MOST) {
                return;
            }
            Word word = wordOf(bytes, from, to);
            int value = 0;
            if (kindOf(at(bytes, from)) == 2 && to - from <= DIGITS_MOST) {
                word = Word.NUMBER;
                for (int i = from; i < to; i++) {
                    value = value * 10 + at(bytes, i) - '0';
                }
            }
            if (size >= 0 && size < words.length) {
                words[size] = word;
            }
            put(begins, size, from);
            put(values, size, value);
            size++;
        }

        private static Word wordOf(int[] bytes, int from, int to) {
            for (int i = 0; i < WORDS.length; i++) {
                Word word = WORDS[i];
                if (word != null && isWritten(word.written, bytes, from, to)) {
                    return word;
                }
            }
            return Word.WRONG;
        }

        private static boolean isWritten(String written, int[] bytes, int from, int to) {
            if (written.length() != to - from) {
                return false;
            }
            for (int i = 0; i < written.length(); i++) {
                if (written.charAt(i) != at(bytes, from + i)) {
                    return false;
                }
            }
            return true;
        }

        Word word() {
            Word word = place >= 0 && place < size && place < words.length ? words[place] : Word.END;
            return word != null ? word : Word.END;
        }

        boolean failed() {
            return wrongAt != NONE;
        }

        void fail() {
            if (wrongAt == NONE) {
                wrongAt = place >= 0 && place < begins.length ? begins[place] : 0;
            }
        }

        /** Goes on behind that word, if it stands here. */
        boolean passes(Word word) {
            if (failed() || word() != word) {
                return false;
            }
            place++;
            return true;
        }

        void needs(Word word) {
            if (!passes(word)) {
                fail();
            }
        }

        int number(int least, int most) {
            int value = at(values, place);
            if (failed() || word() != Word.NUMBER || value < least || value > most) {
                fail();
                return least;
            }
            place++;
            return value;
        }

        /** Whether one more LINE must come, behind a LINE. */
        boolean goesOn() {
            if (passes(Word.SEMICOLON)) {
                return true;
            }
            if (word() != Word.END) {
                fail();
            }
            return false;
        }
    }

    // ---- the law ----

    /** What spoils, what mends and what it is worth: of each LINE a condition, operands first. */
    private static final class Law {
        private static final int LINES = 12;
        private static final int N_MOST = 99;
        private static final int NUMBER_MOST = 999;
        private static final int DEEPEST = 6;
        private static final int STACK = 64;
        // In the code numbers are 0 and above, facts below 0, and these far below all facts.
        private static final int DO_NOT = -101;
        private static final int DO_AND = -102;
        private static final int DO_OR = -103;
        private static final int DO_LESS = -104;
        private static final int DO_MORE = -105;
        private static final int DO_PLUS = -106;

        private final int[] kinds = new int[LINES];
        private final int[] sums = new int[LINES];
        private final int[] begins = new int[LINES];
        private final int[] ends = new int[LINES];
        private final int[] code = new int[TAPE_MOST];
        private final int[] stack = new int[STACK];
        private int size = NONE;
        private int used;

        void copyFrom(Law other) {
            size = other.size;
            used = other.used;
            copyRow(other.kinds, kinds, size);
            copyRow(other.sums, sums, size);
            copyRow(other.begins, begins, size);
            copyRow(other.ends, ends, size);
            copyRow(other.code, code, used);
        }

        /** What is read counts only if the text has not failed behind it. */
        void readFrom(Text text) {
            size = 0;
            used = 0;
            boolean more = text.word() != Word.END;
            for (int n = 0; n <= LINES && more; n++) {
                if (n == LINES) {
                    text.fail();
                } else {
                    readLine(text);
                }
                more = text.goesOn();
            }
        }

        private void readLine(Text text) {
            int kind = SPOIL;
            if (text.passes(Word.MEND_LINE)) {
                kind = MEND;
            } else if (text.passes(Word.WORTH_LINE)) {
                kind = WORTH;
            } else {
                text.needs(Word.SPOIL_LINE);
            }
            put(kinds, size, kind);
            put(sums, size, text.number(0, N_MOST));
            put(begins, size, used);
            if (text.passes(Word.IF)) {
                readCondition(text, 0);
            }
            put(ends, size, used);
            size++;
        }

        private void readCondition(Text text, int deep) {
            boolean more = true;
            for (int n = 0; n < TAPE_MOST && more; n++) {
                readAtom(text, deep);
                for (int k = 0; k < TAPE_MOST && text.passes(Word.AND); k++) {
                    readAtom(text, deep);
                    emit(DO_AND);
                }
                if (n > 0) {
                    emit(DO_OR);
                }
                more = text.passes(Word.OR);
            }
        }

        private void readAtom(Text text, int deep) {
            Word word = text.word();
            boolean opens = word == Word.NOT || word == Word.OPEN;
            if (text.failed() || opens && deep >= DEEPEST) {
                text.fail();
            } else if (text.passes(Word.NOT)) {
                readAtom(text, deep + 1);
                emit(DO_NOT);
            } else if (text.passes(Word.OPEN)) {
                readCondition(text, deep + 1);
                text.needs(Word.CLOSE);
            } else if (word.fact >= OF_FILLER) {
                emit(-1 - word.fact);
                text.passes(word);
            } else {
                readSum(text);
                boolean less = text.passes(Word.LESS);
                if (!less) {
                    text.needs(Word.MORE);
                }
                readSum(text);
                emit(less ? DO_LESS : DO_MORE);
            }
        }

        private void readSum(Text text) {
            boolean more = true;
            for (int n = 0; n < TAPE_MOST && more; n++) {
                Word word = text.word();
                if (word.fact >= 0 && word.fact < OF_FILLER) {
                    emit(-1 - word.fact);
                    text.passes(word);
                } else {
                    emit(text.number(0, NUMBER_MOST));
                }
                if (n > 0) {
                    emit(DO_PLUS);
                }
                more = text.passes(Word.PLUS);
            }
        }

        private void emit(int one) {
            if (used < code.length) {
                put(code, used, one);
                used++;
            }
        }

        /** The sum of N of all LINES of a kind that hold. */
        int sumOf(int kind, int[] facts) {
            int sum = 0;
            for (int n = 0; n < size; n++) {
                if (at(kinds, n) == kind && holds(n, facts)) {
                    sum += at(sums, n);
                }
            }
            return sum;
        }

        private boolean holds(int n, int[] facts) {
            int end = at(ends, n);
            int depth = 0;
            for (int i = at(begins, n); i < end; i++) {
                int one = at(code, i);
                if (one > DO_NOT) {
                    put(stack, depth, one >= 0 ? one : at(facts, -1 - one));
                    depth++;
                } else if (one == DO_NOT) {
                    put(stack, depth - 1, 1 - at(stack, depth - 1));
                } else {
                    depth--;
                    put(stack, depth - 1, joined(one, at(stack, depth - 1), at(stack, depth)));
                }
            }
            return depth == 0 || at(stack, 0) != 0;
        }

        private static int joined(int how, int a, int b) {
            switch (how) {
                case DO_AND: return a & b;
                case DO_OR: return a | b;
                case DO_LESS: return a < b ? 1 : 0;
                case DO_MORE: return a > b ? 1 : 0;
                default: return a + b;
            }
        }
    }

    // ---- what a line has ----

    /** UNITS in order; where they are numbered, with NUMBER and how often each was sent. */
    private static final class Units {
        private final int[] serials;
        private final int[] lengths;
        private final int[] numbers;
        private final int[] sent;
        private int size;

        Units(int most, boolean numbered) {
            int room = most > 0 ? most : 0;
            serials = new int[room];
            lengths = new int[room];
            numbers = new int[numbered ? room : 0];
            sent = new int[numbered ? room : 0];
        }

        void copyFrom(Units other) {
            size = other.size;
            copyRow(other.serials, serials, size);
            copyRow(other.lengths, lengths, size);
            copyRow(other.numbers, numbers, size);
            copyRow(other.sent, sent, size);
        }

        boolean add(int serial, int length, int number) {
            if (size < 0 || size >= serials.length) {
                return false;
            }
            put(serials, size, serial);
            put(lengths, size, length);
            put(numbers, size, number);
            put(sent, size, 0);
            size++;
            return true;
        }

        /** How many of the others found room behind. */
        int addAll(Units others) {
            int found = 0;
            for (int i = 0; i < others.size; i++) {
                if (add(at(others.serials, i), at(others.lengths, i), NONE)) {
                    found++;
                }
            }
            return found;
        }

        /** Puts the others ahead; of too many the last are lost. */
        void putAhead(Units others) {
            for (int i = others.size - 1; i >= 0; i--) {
                openRow(serials);
                openRow(lengths);
                put(serials, 0, at(others.serials, i));
                put(lengths, 0, at(others.lengths, i));
                size = size < serials.length ? size + 1 : size;
            }
        }

        void dropFirst(int n) {
            int less = n < size ? n : size;
            shiftRow(serials, less);
            shiftRow(lengths, less);
            shiftRow(numbers, less);
            shiftRow(sent, less);
            size -= less;
        }

        int placeOf(int number) {
            for (int i = 0; i < size && i < numbers.length; i++) {
                if (numbers[i] == number) {
                    return i;
                }
            }
            return NONE;
        }

        int octets() {
            int sum = 0;
            for (int i = 0; i < size; i++) {
                sum += at(lengths, i);
            }
            return sum;
        }
    }

    /** What was sent and has not arrived, place by place. */
    private static final class Air {
        private final int[] kinds = new int[DELAY_MOST];
        private final int[] serials = new int[DELAY_MOST];
        private final int[] lengths = new int[DELAY_MOST];
        private final int[] numbers = new int[DELAY_MOST];
        private final int[] bads = new int[DELAY_MOST];

        void copyFrom(Air other) {
            copyRow(other.kinds, kinds, DELAY_MOST);
            copyRow(other.serials, serials, DELAY_MOST);
            copyRow(other.lengths, lengths, DELAY_MOST);
            copyRow(other.numbers, numbers, DELAY_MOST);
            copyRow(other.bads, bads, DELAY_MOST);
        }

        void comeAhead() {
            shiftRow(kinds, 1);
            shiftRow(serials, 1);
            shiftRow(lengths, 1);
            shiftRow(numbers, 1);
            shiftRow(bads, 1);
        }

        boolean isBad(int place) {
            return at(bads, place) != 0;
        }

        void putFiller(int place, boolean bad) {
            put(kinds, place, FILLER);
            put(bads, place, bad ? 1 : 0);
        }

        void putUnit(int place, Units units, int which, boolean bad) {
            put(kinds, place, UNIT);
            put(serials, place, at(units.serials, which));
            put(lengths, place, at(units.lengths, which));
            put(numbers, place, at(units.numbers, which));
            put(bads, place, bad ? 1 : 0);
        }
    }

    private static final class Line {
        private final Units queue = new Units(QUEUE_MOST, false);
        private final Units back = new Units(UNITS_MOST, true);
        private final Air air = new Air();
        private final int[] replies = new int[DELAY_MOST];
        private int state;
        private int noise;
        private int delay;
        private int unitsMost;
        private int octetsMost;
        private int limit;
        private int hand;
        private boolean forced;
        private int next;
        private int expect;
        private int bucket;
        private int good;
        private int proved;
        private int bad;
        private int tries;

        Line() {
            makeNew();
        }

        private void makeNew() {
            state = OUT;
            noise = 0;
            delay = 2;
            unitsMost = 4;
            octetsMost = 30;
            limit = 4;
            queue.size = 0;
            back.size = 0;
            beginAnew();
        }

        void copyFrom(Line other) {
            queue.copyFrom(other.queue);
            back.copyFrom(other.back);
            air.copyFrom(other.air);
            copyRow(other.replies, replies, DELAY_MOST);
            state = other.state;
            noise = other.noise;
            delay = other.delay;
            unitsMost = other.unitsMost;
            octetsMost = other.octetsMost;
            limit = other.limit;
            hand = other.hand;
            forced = other.forced;
            next = other.next;
            expect = other.expect;
            bucket = other.bucket;
            good = other.good;
            proved = other.proved;
            bad = other.bad;
            tries = other.tries;
        }

        /** As a LINE begins that came IN, or was CHANGED OVER. */
        void beginAnew() {
            next = 0;
            expect = 0;
            hand = 0;
            bucket = 0;
            good = 0;
            proved = 0;
            bad = 0;
            tries = 0;
            forced = false;
            clearRow(air.kinds, NOTHING);
            clearRow(replies, NONE);
        }

        void prove() {
            state = PROVING;
            proved = 0;
            bad = 0;
            tries = 0;
            bucket = 0;
            good = 0;
        }

        int load() {
            return back.octets() + queue.octets();
        }

        int row() {
            return back.size + queue.size;
        }

        /** Whether the first of QUEUE may go into BACK. */
        boolean fits() {
            return queue.size > 0 && back.size < unitsMost
                    && at(queue.lengths, 0) + back.octets() <= octetsMost;
        }

        int comes() {
            if (state != IN) {
                return NONE;
            }
            if (!forced && fits()) {
                return at(queue.serials, 0);
            }
            if (back.size <= 0) {
                return NONE;
            }
            boolean forces = !forced && queue.size > 0;
            return at(back.serials, forces ? 0 : hand);
        }

        /** The monitor: fills by what was bad, leaks by what was good; whether it was bad. */
        boolean watch() {
            if (at(air.kinds, 0) == NOTHING) {
                return false;
            }
            if (air.isBad(0)) {
                bucket = bucket < BUCKET_MOST ? bucket + 1 : BUCKET_MOST;
                good = 0;
                return true;
            }
            good++;
            if (good >= EIGHTH) {
                good = 0;
                bucket = bucket > 0 ? bucket - 1 : 0;
            }
            return false;
        }

        boolean takesArrived() {
            return state == IN && at(air.kinds, 0) == UNIT && !air.isBad(0)
                    && at(air.numbers, 0) == expect;
        }

        /** How many UNITS of BACK the far end has, if it told that NUMBER. */
        int toldBy(int number) {
            int ahead = back.placeOf(number);
            if (ahead != NONE) {
                return ahead;
            }
            return number == next ? back.size : 0;
        }

        void comeBack() {
            int number = at(replies, 0);
            shiftRow(replies, 1);
            put(replies, delay - 1, expect);
            if (number == NONE) {
                return;
            }
            int left = toldBy(number);
            back.dropFirst(left);
            hand = hand > left ? hand - left : 0;
            if (back.size == 0) {
                hand = 0;
                forced = false;
            }
        }

        void forceRound() {
            forced = true;
            hand = 0;
        }

        void handOn() {
            hand++;
            if (hand >= back.size) {
                hand = 0;
                forced = false;
            }
        }
    }

    /** The latest rows of what came about. */
    private static final class Journal {
        private static final int MOST = 60;
        private static final int WIDTH = 4;

        private final int[] cells = new int[MOST * WIDTH];
        private int following;
        private int size;

        void copyFrom(Journal other) {
            copyRow(other.cells, cells, MOST * WIDTH);
            following = other.following;
            size = other.size;
        }

        void add(int tick, int line, int what, int more) {
            int from = following * WIDTH;
            put(cells, from, tick);
            put(cells, from + 1, line);
            put(cells, from + 2, what);
            put(cells, from + 3, more);
            following = (following + 1) % MOST;
            size = size < MOST ? size + 1 : MOST;
        }

        int told(int ago, int what) {
            if (ago < 0 || ago >= size) {
                return NONE;
            }
            return at(cells, (following + MOST - 1 - ago) % MOST * WIDTH + what);
        }
    }

    // ---- all that a tick can change ----

    private static final class World {
        private static final int TEXT_LINES = 14;
        private static final int TEXT_UNITS = 12;
        private static final int TEXT_TICK = 999;

        private final Line[] lines = new Line[LINES_MOST];
        // Stands in for a LINE that there is not, so that none is ever null.
        private final Line spare = new Line();
        private final Journal journal = new Journal();
        private final int[] facts = new int[FACTS];
        private int size;
        private int texts;
        private int tick;
        private int taken;
        private int worth;
        private int told;
        private int seedNow = 1;

        World() {
            for (int i = 0; i < lines.length; i++) {
                lines[i] = new Line();
            }
        }

        void copyFrom(World other) {
            size = other.size;
            for (int i = 0; i < size; i++) {
                lineAt(i).copyFrom(other.lineAt(i));
            }
            journal.copyFrom(other.journal);
            texts = other.texts;
            tick = other.tick;
            taken = other.taken;
            worth = other.worth;
            told = other.told;
            seedNow = other.seedNow;
        }

        Line lineAt(int i) {
            Line line = i >= 0 && i < lines.length ? lines[i] : null;
            return line != null ? line : spare;
        }

        int inState(int state) {
            int bits = 0;
            for (int i = 0; i < size; i++) {
                bits |= lineAt(i).state == state ? 1 << i : 0;
            }
            return bits;
        }

        int queued() {
            int sum = 0;
            for (int i = 0; i < size; i++) {
                sum += lineAt(i).queue.size;
            }
            return sum;
        }

        int unitsKept() {
            int sum = 0;
            for (int i = 0; i < size; i++) {
                sum += lineAt(i).back.size;
            }
            return sum;
        }

        boolean isClear() {
            return queued() == 0 && unitsKept() == 0;
        }

        int tellUnit(Line line, int length) {
            int serial = told;
            line.queue.add(serial, length, NONE);
            told++;
            return serial;
        }

        // -- a text of lines --

        /** What is read counts only if the text has not failed behind it. */
        void readLines(Text text) {
            boolean more = text.word() != Word.END;
            for (int n = 0; n <= TEXT_LINES && more; n++) {
                if (n == TEXT_LINES) {
                    text.fail();
                } else if (text.passes(Word.UNITS)) {
                    readUnits(text);
                } else if (text.passes(Word.TICK)) {
                    tick = text.number(0, TEXT_TICK);
                } else {
                    readLine(text);
                }
                more = text.goesOn();
            }
        }

        private void readUnits(Text text) {
            Line line = lineAt(text.number(0, size - 1));
            text.needs(Word.OF);
            boolean more = true;
            for (int n = 0; n <= TEXT_UNITS && more; n++) {
                if (n == TEXT_UNITS || line.queue.size >= TOLD_MOST) {
                    text.fail();
                }
                int length = text.number(1, LENGTH_MOST);
                if (!text.failed()) {
                    tellUnit(line, length);
                }
                more = text.word() == Word.NUMBER && !text.failed();
            }
        }

        private void readLine(Text text) {
            if (size >= LINES_MOST) {
                text.fail();
            }
            text.needs(Word.LINE);
            Line line = lineAt(size);
            line.makeNew();
            if (text.passes(Word.NOISE)) {
                line.noise = text.number(0, NOISE_MOST);
            }
            if (text.passes(Word.DELAY)) {
                line.delay = text.number(1, DELAY_MOST);
            }
            if (text.passes(Word.UNITS)) {
                line.unitsMost = text.number(1, UNITS_MOST);
            }
            if (text.passes(Word.OCTETS)) {
                line.octetsMost = text.number(OCTETS_LEAST, OCTETS_MOST);
            }
            if (text.passes(Word.LIMIT)) {
                line.limit = text.number(1, LIMIT_MOST);
            }
            if (text.passes(Word.IN_STATE)) {
                line.state = IN;
            } else if (text.passes(Word.PROVING_STATE)) {
                line.state = PROVING;
            }
            if (!text.failed()) {
                size++;
            }
        }

        // -- ticks --

        /** So many TICKS more; without draws just that is bad whose CHANCE is 100. */
        void pass(int ticks, Law law, boolean draws) {
            for (int n = 0; n < ticks; n++) {
                for (int i = 0; i < size; i++) {
                    if (lineAt(i).state != OUT) {
                        passLine(i, law, draws);
                    }
                }
                tick = tick < TICK_MOST ? tick + 1 : TICK_MOST;
            }
        }

        private void passLine(int i, Law law, boolean draws) {
            Line line = lineAt(i);
            boolean cameBad = line.watch();
            if (line.takesArrived()) {
                take(i, line, law);
            }
            line.air.comeAhead();
            if (line.state == IN) {
                line.comeBack();
            }
            int place = send(i, line);
            boolean bad = isSpoiled(chanceOn(line, law), draws);
            if (place == NONE) {
                line.air.putFiller(line.delay - 1, bad);
            } else {
                line.air.putUnit(line.delay - 1, line.back, place, bad);
            }
            if (line.state == PROVING) {
                prove(i, line, cameBad);
            } else if (line.bucket > line.limit) {
                line.state = OUT;
                journal.add(tick, i, OUT_OF_IN_ROW, line.bucket);
                changeOver(i);
            }
        }

        private void take(int i, Line line, Law law) {
            int place = line.back.placeOf(line.expect);
            tellFacts(i, line);
            put(facts, OF_LENGTH, at(line.air.lengths, 0));
            put(facts, OF_FILLER, 0);
            put(facts, OF_REPEAT, at(line.back.sent, place) > 1 ? 1 : 0);
            worth += at(line.air.lengths, 0) + law.sumOf(WORTH, facts);
            worth = worth < WORTH_MOST ? worth : WORTH_MOST;
            taken++;
            journal.add(tick, i, TAKEN_ROW, at(line.air.serials, 0));
            line.expect = (line.expect + 1) % NUMBERS;
        }

        /** What the law may ask of a filler on a LINE, as all is now. */
        private void tellFacts(int i, Line line) {
            put(facts, OF_LINE, i);
            put(facts, OF_LENGTH, 0);
            put(facts, OF_KEPT, line.back.size);
            put(facts, OF_QUEUE, line.queue.size);
            put(facts, OF_BUCKET, line.bucket);
            put(facts, OF_DELAY, line.delay);
            put(facts, OF_TICK, tick % 100);
            put(facts, OF_FILLER, 1);
            put(facts, OF_FORCED, line.forced ? 1 : 0);
            put(facts, OF_REPEAT, 0);
        }

        /** Sends: the place in BACK of what is sent (NONE: a filler), which the facts tell of then. */
        private int send(int i, Line line) {
            boolean free = line.state == IN && !line.forced;
            boolean anew = free && line.fits();
            if (anew) {
                line.back.add(at(line.queue.serials, 0), at(line.queue.lengths, 0), line.next);
                line.queue.dropFirst(1);
                line.next = (line.next + 1) % NUMBERS;
            } else if (free && line.queue.size > 0) {
                line.forceRound();
                journal.add(tick, i, FORCED_ROW, line.back.size);
            }
            tellFacts(i, line);
            if (line.state != IN || line.back.size == 0) {
                return NONE;
            }
            int place = anew ? line.back.size - 1 : line.hand;
            int sent = at(line.back.sent, place);
            put(facts, OF_LENGTH, at(line.back.lengths, place));
            put(facts, OF_FILLER, 0);
            put(facts, OF_REPEAT, sent > 0 ? 1 : 0);
            put(line.back.sent, place, sent + 1);
            if (!anew) {
                line.handOn();
            }
            return place;
        }

        int fillerChance(int i, Law law) {
            tellFacts(i, lineAt(i));
            return chanceOn(lineAt(i), law);
        }

        private int chanceOn(Line line, Law law) {
            int sum = line.noise + law.sumOf(SPOIL, facts) - law.sumOf(MEND, facts);
            return sum < 0 ? 0 : sum > 100 ? 100 : sum;
        }

        private boolean isSpoiled(int chanceNow, boolean draws) {
            if (!draws) {
                return chanceNow >= 100;
            }
            seedNow = 1103515245 * seedNow + 12345;
            return (seedNow >>> 16 & 0x7fff) % 100 < chanceNow;
        }

        private void prove(int i, Line line, boolean cameBad) {
            line.proved++;
            line.bad += cameBad ? 1 : 0;
            if (line.proved < EIGHTH) {
                return;
            }
            int wasBad = line.bad;
            if (wasBad <= 1) {
                line.state = IN;
                line.beginAnew();
                journal.add(tick, i, IN_ROW, wasBad);
                return;
            }
            line.proved = 0;
            line.bad = 0;
            line.tries++;
            if (line.tries >= TRIES_MOST) {
                line.tries = 0;
                line.state = OUT;
                journal.add(tick, i, OUT_OF_PROVING_ROW, wasBad);
            }
        }

        /** Of a LINE that is OUT now: how many UNITS went to another LINE and found room. */
        int changeOver(int i) {
            Line line = lineAt(i);
            int to = fewest(i);
            int found = 0;
            line.back.dropFirst(line.toldBy(line.expect));
            if (to == NONE) {
                line.queue.putAhead(line.back);
            } else {
                Units queue = lineAt(to).queue;
                found = queue.addAll(line.back) + queue.addAll(line.queue);
                line.queue.size = 0;
            }
            line.back.size = 0;
            line.beginAnew();
            journal.add(tick, i, CHANGED_ROW, found);
            return found;
        }

        private int fewest(int but) {
            int found = NONE;
            for (int i = 0; i < size; i++) {
                Line line = lineAt(i);
                if (i != but && line.state == IN && (found == NONE || line.row() < lineAt(found).row())) {
                    found = i;
                }
            }
            return found;
        }
    }

    // ---- a fault that comes round ----

    /** Rows of what was seen, and the periods and phases that they leave. */
    private static final class Period {
        private static final int LONGEST = 12;
        private static final int BYTES_MOST = 40;
        private static final int TICKS = 100;
        private static final int WRONG_MOST = 1;

        private final int[] ticks = new int[BYTES_MOST];
        private final int[] bads = new int[BYTES_MOST];
        private final int[] wrongs = new int[LONGEST * LONGEST];
        private int size;

        boolean readFrom(int[] bytes, int n) {
            if (n > BYTES_MOST || n % 2 != 0) {
                return false;
            }
            size = n / 2;
            for (int i = 0; i < size; i++) {
                put(ticks, i, at(bytes, 2 * i));
                put(bads, i, at(bytes, 2 * i + 1));
                if (at(ticks, i) >= TICKS || at(bads, i) > 1) {
                    return false;
                }
            }
            for (int c = 0; c < wrongs.length; c++) {
                wrongs[c] = isOne(c) ? wrongRows(c / LONGEST + 1, c % LONGEST) : size + 2;
            }
            return true;
        }

        /** Whether that is 12 times a period less 1, and a phase of it. */
        private static boolean isOne(int c) {
            return c % LONGEST <= c / LONGEST;
        }

        private static boolean hits(int tick, int period, int phase) {
            return period > 0 && tick % period == phase;
        }

        private int wrongRows(int period, int phase) {
            int wrong = 0;
            for (int i = 0; i < size; i++) {
                if (hits(at(ticks, i), period, phase) != (at(bads, i) == 1)) {
                    wrong++;
                }
            }
            return wrong;
        }

        int howMany() {
            int fit = 0;
            for (int c = 0; c < wrongs.length; c++) {
                if (wrongs[c] <= WRONG_MOST) {
                    fit++;
                }
            }
            return fit;
        }

        int first() {
            int found = NONE;
            int fewest = WRONG_MOST + 1;
            for (int c = 0; c < wrongs.length; c++) {
                if (wrongs[c] < fewest) {
                    fewest = wrongs[c];
                    found = c;
                }
            }
            return found;
        }

        int parting() {
            int fit = howMany();
            if (fit < 2) {
                return NONE;
            }
            int found = NONE;
            int least = fit + 1;
            for (int tick = 0; tick < TICKS; tick++) {
                int hit = hitBy(tick);
                int greater = hit > fit - hit ? hit : fit - hit;
                if (greater < least) {
                    least = greater;
                    found = tick;
                }
            }
            return found;
        }

        private int hitBy(int tick) {
            int hit = 0;
            for (int c = 0; c < wrongs.length; c++) {
                if (wrongs[c] <= WRONG_MOST && hits(tick, c / LONGEST + 1, c % LONGEST)) {
                    hit++;
                }
            }
            return hit;
        }
    }

    // ---- ways ----

    /** UNITS put to LINES, and LINES put two by two: the first of the best ways. */
    private static final class Ways {
        private static final int SPLIT_MOST = 8;

        private final int[] lengths = new int[SPLIT_MOST];
        private final int[] chosen = new int[SPLIT_MOST];
        private final int[] sums = new int[LINES_MOST];
        private final int[] partner = new int[LINES_MOST];
        private final int[] bestPartner = new int[LINES_MOST];
        private int units;
        private int greatest;

        /** Tries one greatest sum behind another, as the first way that keeps to the least is asked for. */
        int splitUnits(World world) {
            int all = gather(world);
            clearRow(chosen, NONE);
            clearRow(sums, 0);
            int lines = Integer.bitCount(world.inState(IN));
            if (units == 0 || lines <= 0) {
                return units == 0 ? 0 : NONE;
            }
            // No way is below an even one.
            for (int most = (all + lines - 1) / lines; most <= all; most++) {
                if (putUnit(world, 0, most)) {
                    return most;
                }
            }
            return NONE;
        }

        int lineOfUnit(int k) {
            return k >= 0 && k < units ? at(chosen, k) : NONE;
        }

        /** The LENGTHS of all UNITS to split, together. */
        private int gather(World world) {
            int all = 0;
            units = 0;
            for (int i = 0; i < world.size; i++) {
                Units queue = world.lineAt(i).queue;
                for (int k = 0; k < queue.size && units < SPLIT_MOST; k++) {
                    put(lengths, units, at(queue.lengths, k));
                    all += at(queue.lengths, k);
                    units++;
                }
            }
            return all;
        }

        /** Whether there is a way on from the k-th UNIT by which no sum is above the most. */
        private boolean putUnit(World world, int k, int most) {
            if (k >= units) {
                return true;
            }
            for (int i = 0; i < world.size; i++) {
                int sum = at(sums, i) + at(lengths, k);
                if (world.lineAt(i).state == IN && sum <= most) {
                    put(sums, i, sum);
                    put(chosen, k, i);
                    if (putUnit(world, k + 1, most)) {
                        return true;
                    }
                    put(sums, i, sum - at(lengths, k));
                    put(chosen, k, NONE);
                }
            }
            return false;
        }

        int pairLines(World world) {
            clearRow(partner, NONE);
            greatest = NONE;
            pairLine(world, 0, 0);
            return greatest;
        }

        int partnerOf(int line) {
            return at(bestPartner, line);
        }

        private void pairLine(World world, int i, int sum) {
            if (i >= world.size) {
                if (sum > greatest) {
                    greatest = sum;
                    copyRow(partner, bestPartner, LINES_MOST);
                }
                return;
            }
            pairLine(world, i + 1, sum);
            Line line = world.lineAt(i);
            if (at(partner, i) != NONE || line.state != IN) {
                return;
            }
            for (int j = i + 1; j < world.size; j++) {
                Line other = world.lineAt(j);
                if (at(partner, j) == NONE && other.state == IN) {
                    int less = line.noise < other.noise ? line.noise : other.noise;
                    put(partner, i, j);
                    put(partner, j, i);
                    pairLine(world, i + 1, sum + 100 - less);
                    put(partner, i, NONE);
                    put(partner, j, NONE);
                }
            }
        }
    }
}
