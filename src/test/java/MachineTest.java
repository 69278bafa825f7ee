import java.lang.reflect.InvocationTargetException;
import java.lang.reflect.Method;
import java.lang.reflect.Modifier;
import java.util.Arrays;
import java.util.Comparator;
import java.util.Random;

/** Rule 7: whatever the arguments are, nothing is thrown but what the face tells, by a throw of its own. */
public final class MachineTest {
    private static final int[] NUMBERS = {Integer.MIN_VALUE, Integer.MIN_VALUE + 1, -100, -2, -1, 0, 1, 2, 3, 4, 5, 8, 9, 16,
        24, 60, 61, 96, 99, 100, 400, 0x7ffffffe, Integer.MAX_VALUE};
    private static final String[] TEXTS = {"line in", "line noise 50 delay 4 in;line proving;units 0 of 1 2 3 4 5 6 7 8 9",
        "units 0 of 9 9 9;tick 999", "line noise 100 limit 1 in", "line;line;line;line;line", "units", ";", "",
        "\u0000\u0001\u0002\u0003\u0004\u0005", "\u0005\u0001\u0006\u0000", "\u0000\u0001\u0002\u0002"};
    private static final String[] LAWS = {"spoil 9 if not (kept>1 or filler);worth 9 if repeat", "mend 99", "",
        "spoil 99 if ((((((tick+tick+tick<999))))))", "spoil 1 if not not not not not not not forced"};

    private final Random random = new Random(17);
    private final Check check = new Check();
    private final Method[] face;

    private MachineTest() {
        face = Arrays.stream(CyclicLines.class.getDeclaredMethods())
                .filter(m -> Modifier.isPublic(m.getModifiers()))
                .sorted(Comparator.comparing(Method::getName))
                .toArray(Method[]::new);
    }

    public static void main(String[] args) throws IllegalAccessException {
        MachineTest t = new MachineTest();
        for (int run = 0; run < 1500; run++) {
            t.run();
        }
        t.check.end("MachineTest");
    }

    private void run() throws IllegalAccessException {
        CyclicLines x = new CyclicLines();
        for (int calls = 0; calls < 490; calls++) {
            int what = random.nextInt(8);
            if (what == 0) {
                String text = random.nextInt(4) == 0 ? pick(LAWS) : pick(TEXTS);
                Check.tape(x, text);
                calls += 1 + (text.length() + 19) / 20;
            } else if (what == 1) {
                Check.outcome(() -> x.ticks(1 + random.nextInt(9)));
            } else {
                call(x, face[random.nextInt(face.length)]);
            }
        }
    }

    private String pick(String[] texts) {
        return texts[random.nextInt(texts.length)];
    }

    private void call(CyclicLines x, Method method) throws IllegalAccessException {
        Object[] given = new Object[method.getParameterCount()];
        for (int i = 0; i < given.length; i++) {
            boolean isNumber = method.getParameterTypes()[i] == int.class;
            int number = random.nextInt(3) > 0 ? random.nextInt(5) - 1
                    : random.nextInt(3) == 0 ? random.nextInt() : NUMBERS[random.nextInt(NUMBERS.length)];
            given[i] = isNumber ? (Object) number : (Object) random.nextBoolean();
        }
        try {
            method.invoke(x, given);
            check.same("an answer", true, true);
        } catch (InvocationTargetException e) {
            Throwable thrown = e.getCause();
            String call = method.getName() + Arrays.toString(given) + " threw " + thrown;
            check.same(call, true, Arrays.asList(method.getExceptionTypes()).contains(thrown.getClass()));
            check.same(call, true, String.valueOf(thrown.getMessage()).matches("[a-z0-9 ]+"));
            check.same(call, true, thrown.getStackTrace()[0].getClassName().startsWith("CyclicLines"));
        }
    }
}
