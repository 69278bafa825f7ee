import java.io.IOException;
import java.lang.management.ManagementFactory;
import java.lang.reflect.Constructor;
import java.lang.reflect.Field;
import java.lang.reflect.Method;
import java.lang.reflect.Modifier;
import java.nio.file.Files;
import java.nio.file.Path;
import java.util.ArrayList;
import java.util.Arrays;
import java.util.HashSet;
import java.util.List;
import java.util.Set;
import java.util.TreeSet;
import java.util.regex.Matcher;
import java.util.regex.Pattern;

/** The face, and what a program can look at of the rules in LANGUAGE.md. */
public final class LanguageTest {
    private static final Path SOURCE = Path.of("src/main/java/CyclicLines.java");
    private static final Path DOC = Path.of("../shared/DOC.md");

    private final Check check = new Check();

    public static void main(String[] args) throws IOException {
        LanguageTest t = new LanguageTest();
        String source = Files.readString(SOURCE);
        t.face(Files.readString(DOC));
        t.members();
        t.library(source);
        t.lengths(source);
        t.room();
        t.check.end("LanguageTest");
    }

    private static String signature(Method m) {
        return m.getReturnType().getSimpleName() + " " + m.getName()
                + Arrays.stream(m.getParameterTypes()).map(Class::getSimpleName).toList()
                + Arrays.stream(m.getExceptionTypes()).map(Class::getSimpleName).toList();
    }

    /** Rule 1: the face of the document, and nothing more. */
    private void face(String doc) {
        Set<String> due = new TreeSet<>();
        Matcher m = Pattern.compile("    public (int|boolean|void) (\\w+)\\((.*?)\\)(?: throws (.*?))?;").matcher(doc);
        while (m.find()) {
            List<String> types = new ArrayList<>();
            for (String one : m.group(3).split(", ")) {
                if (!one.isEmpty()) {
                    types.add(one.split(" ")[0]);
                }
            }
            List<String> thrown = m.group(4) == null ? List.of() : Arrays.asList(m.group(4).split(", "));
            due.add(m.group(1) + " " + m.group(2) + types + thrown);
        }
        Set<String> got = new TreeSet<>();
        for (Method method : CyclicLines.class.getDeclaredMethods()) {
            if (!Modifier.isPrivate(method.getModifiers())) {
                got.add(signature(method));
            }
        }
        check.same("1: the face", due, got);
        check.same("1: 37 methods or more", true, due.size() > 36);
        check.same("1: final", true, Modifier.isFinal(CyclicLines.class.getModifiers()));
        int constructors = 0;
        for (Constructor<?> c : CyclicLines.class.getDeclaredConstructors()) {
            constructors += c.getParameterCount() == 0 && Modifier.isPublic(c.getModifiers()) ? 1 : 100;
        }
        check.same("1: one constructor", 1, constructors);
    }

    private static List<Class<?>> classes() {
        List<Class<?>> all = new ArrayList<>();
        all.add(CyclicLines.class);
        all.addAll(Arrays.asList(CyclicLines.class.getDeclaredClasses()));
        return all;
    }

    private void members() {
        Set<String> open = new HashSet<>();
        for (Method m : CyclicLines.class.getDeclaredMethods()) {
            if (Modifier.isPublic(m.getModifiers())) {
                open.add(m.getName());
            }
        }
        check.same("11: some twelve classes", true, classes().size() <= 12);
        for (Class<?> c : classes()) {
            int own = 0;
            for (Field f : c.getDeclaredFields()) {
                boolean isStatic = Modifier.isStatic(f.getModifiers());
                own += isStatic ? 0 : 1;
                check.same("5: " + f, true, !isStatic || Modifier.isFinal(f.getModifiers()));
                check.same("1: " + f, true, Modifier.isPrivate(f.getModifiers()) || f.isEnumConstant()
                        || f.getName().equals("NONE"));
            }
            check.same("11: fields of " + c, true, own <= 20);
            for (Method m : c.getDeclaredMethods()) {
                check.same("11: parameters of " + m, true, m.getParameterCount() <= 7);
                check.same("1: the name of " + m, true, Modifier.isPublic(m.getModifiers()) || !open.contains(m.getName()));
            }
        }
    }

    /** Rules 2 to 6, 10 and 13, as far as words tell. */
    private void library(String source) {
        String code = source.replaceAll("(?s)/\\*.*?\\*/", "").replaceAll("//.*", "");
        List<String> imports = code.lines().filter(l -> l.startsWith("import")).toList();
        check.same("4: imports", List.of("import java.util.NoSuchElementException;"), imports);
        String[] banned = {"->", "::", "catch", "finally", "synchronized", "assert", "System.out", "System.nano",
            "System.current", "Math.", "Object", "instanceof", "HashMap", "record ", "native", "Thread", "float", "double",
            "transient", "volatile", "@Override", "package ", "var ", "goto", "static {", "Arrays."};
        for (String word : banned) {
            check.same("no " + word, false, code.contains(word));
        }
        Matcher library = Pattern.compile("\\b(Integer|System|Long|Character|String)\\.(\\w+)").matcher(code);
        while (library.find()) {
            boolean may = library.group().equals("Integer.bitCount") || library.group().equals("System.arraycopy");
            check.same("4: " + library.group(), true, may);
        }
        // New rows and objects in fields and constructors alone; in calls nothing but exceptions.
        for (String line : code.lines().toList()) {
            boolean isField = line.contains("private final") || line.matches("\\s+(serials|lengths|numbers|sent|lines\\[i\\]|remembered\\[i\\]) = new .*");
            boolean isThrow = line.contains("throw new ");
            check.same("12: " + line.trim(), true, !line.matches(".*\\bnew .*") || isField || isThrow);
        }
        check.same("7: signs", true, source.chars().allMatch(c -> c < 128));
    }

    /** Rule 11: methods of some sixty lines. */
    private void lengths(String source) {
        String[] lines = source.split("\n");
        int begin = -1;
        for (int i = 0; i < lines.length; i++) {
            if (lines[i].matches("( {4}| {8})[^ /*].*\\) ?(throws .*)?\\{") || lines[i].matches(" {12}throws .*\\{")) {
                begin = i;
            }
            if (begin >= 0 && lines[i].matches(lines[begin].replaceAll("\\S.*", "") + "\\}")) {
                check.same("11: " + lines[begin].trim(), true, i - begin <= 60);
                begin = -1;
            }
        }
    }

    /** Rule 12 and the one room: the calls of a run make next to nothing. */
    private void room() {
        if (!(ManagementFactory.getThreadMXBean() instanceof com.sun.management.ThreadMXBean bean)) {
            return;
        }
        CyclicLines x = Check.of("line noise 20 in;line proving;line noise 30 delay 4 in;line;units 0 of 1 2 3 4 5 6 7;units 2 of 9 9 9 9");
        Check.law(x, "spoil 9 if not (length+kept>queue) or repeat;mend 4 if forced and tick<50;worth 7 if bucket<2");
        long least = Long.MAX_VALUE;
        for (int round = 0; round < 5; round++) {
            x.image();
            long before = bean.getCurrentThreadAllocatedBytes();
            work(x);
            long made = bean.getCurrentThreadAllocatedBytes() - before;
            least = Math.min(least, made);
            x.back();
        }
        check.same("12: bytes made by 240 calls: " + least, true, least < 4096);
    }

    private static void work(CyclicLines x) {
        for (int i = 0; i < 10; i++) {
            x.ticks(5);
            x.tell(0, 1 + i % 9);
            x.line(0, 19);
            x.line(2, 18);
            x.clear();
            x.split(-1);
            x.pairs(-1);
            x.share(0, 99);
            x.odds(0, 5, 2);
            x.ahead(-1, 60);
            x.trial(60, true);
            x.span(60, false);
            x.led(0, true);
            x.feed(0x6d656e64, 0x20310000, 0, 0, 0);
            x.end(6);
            x.law();
            x.feed(0x05010600, 0x07000800, 0, 0, 0);
            x.end(8);
            x.probe();
            x.rests(0);
            x.most(0);
            x.twins();
            x.tune(0, 0, i);
            x.undo();
        }
    }
}
