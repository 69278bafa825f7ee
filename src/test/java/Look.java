import java.util.StringJoiner;

/** All that an object can be asked about what it holds, in one text; some 150 calls for two LINES. */
final class Look {
    private static final int ROWS = 6;

    private Look() {
    }

    static String at(CyclicLines x) {
        StringJoiner all = new StringJoiner(" ");
        for (int what = 0; what <= 10; what++) {
            all.add(String.valueOf(x.count(what)));
        }
        int seed = x.seed(0);
        x.seed(seed);
        all.add("seed " + seed);
        for (int line = 0; line < x.count(0); line++) {
            all.add("line " + line);
            line(all, x, line);
        }
        for (int ago = 0; ago < ROWS && ago < x.count(9); ago++) {
            all.add("row " + ago);
            for (int what = 0; what < 4; what++) {
                all.add(String.valueOf(x.log(ago, what)));
            }
        }
        return all.toString();
    }

    private static void line(StringJoiner all, CyclicLines x, int line) {
        for (int what = 0; what <= 18; what++) {
            all.add(String.valueOf(x.line(line, what)));
        }
        for (int k = 0; x.unit(line, k, 0) != CyclicLines.NONE; k++) {
            all.add("unit " + x.unit(line, k, 0) + " " + x.unit(line, k, 1) + " " + x.unit(line, k, 2));
        }
        for (int k = 0; x.air(line, k, 0) != CyclicLines.NONE; k++) {
            all.add("air " + x.air(line, k, 0) + " " + x.air(line, k, 1) + " " + x.air(line, k, 2)
                    + " " + x.air(line, k, 3) + " " + x.reply(line, k));
        }
    }
}
