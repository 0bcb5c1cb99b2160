import java.io.DataInputStream;
import java.io.IOException;
import java.io.InputStream;
import java.lang.management.ManagementFactory;
import java.lang.reflect.Executable;
import java.lang.reflect.Field;
import java.lang.reflect.Method;
import java.lang.reflect.Modifier;
import java.nio.charset.StandardCharsets;
import java.nio.file.Files;
import java.nio.file.Path;
import java.util.ArrayList;
import java.util.Arrays;
import java.util.List;
import java.util.Set;
import java.util.TreeSet;
import java.util.regex.Matcher;
import java.util.regex.Pattern;

/** The rules of ../shared/LANGUAGE.md that can be looked at without reading: in the text, in what is compiled, in what a call makes. */
public final class LanguageTest {
    private static final Path TEXT = Path.of("src/main/java/OncePerRoad.java");
    private static final int MOST_PARAMETERS = 7;
    private static final int MOST_LINES = 60;
    private static final int MOST_CLASSES = 12;
    private static final int MOST_FIELDS = 20;
    private static final Set<String> EXCEPTIONS = Set.of(
            "IllegalStateException", "IllegalArgumentException", "IndexOutOfBoundsException", "ArithmeticException",
            "UnsupportedOperationException", "NoSuchElementException", "RuntimeException");
    /** Those that the machine throws, and the classes above them, may not be caught at all. */
    private static final Set<String> NEVER_CAUGHT = Set.of(
            "IndexOutOfBoundsException", "ArithmeticException", "RuntimeException", "Exception", "Throwable");
    private static final Set<String> LIBRARY = Set.of(
            "Object.<init>", "System.arraycopy", "Integer.bitCount", "Long.bitCount", "Integer.compare", "Long.compare",
            "Math.max", "Math.min", "Math.abs", "Math.floorDiv", "Math.floorMod", "Arrays.copyOf", "Arrays.copyOfRange",
            "Arrays.fill");
    private static final Due DUE = new Due("LanguageTest");

    public static void main(String[] args) throws Exception {
        String code = withoutComments(Files.readString(TEXT, StandardCharsets.ISO_8859_1));
        DUE.by("rules 1 to 10: what the text doesn't hold");
        words(code);
        DUE.by("rule 6: exceptions");
        exceptions(code);
        DUE.by("rule 11: methods stay short");
        lengths(code);
        List<Class<?>> all = new ArrayList<>(Arrays.asList(OncePerRoad.class.getDeclaredClasses()));
        all.add(OncePerRoad.class);
        DUE.by("rules 5 and 11: fields, parameters, classes");
        atMost("classes", all.size(), MOST_CLASSES);
        for (Class<?> each : all) members(each);
        DUE.by("rule 4: the library");
        for (Class<?> each : all) library(each);
        DUE.by("rule 12: what a call makes");
        room();
        DUE.end();
    }

    // ---- the text

    private static String withoutComments(String text) {
        return text.replaceAll("(?s)/\\*.*?\\*/", "").replaceAll("//[^\n]*", "");
    }

    private static void words(String code) {
        for (int i = 0; i < code.length(); i++) {
            char sign = code.charAt(i);
            if (sign != '\n' && (sign < 32 || sign > 126)) DUE.is("sign at " + i, sign, ' ');
        }
        String[] never = {
            "\\bimport\\b", "\\bpackage\\b", "->", "::", "\\bsynchronized\\b", "\\bassert\\b", "\\bfinally\\b", "\\bvar\\b",
            "\\bprotected\\b", "\\bstatic\\s*\\{", "try\\s*\\(", "\\bgetMessage\\b", "\\bhashCode\\b", "\\btoString\\b", "@",
            "\\bnative\\b", "\\bvolatile\\b", "\\btransient\\b", "\\w+Exact\\b", "\\bThread\\b", "while\\s*\\(true\\)",
            "for\\s*\\(;;\\)",
        };
        for (String each : never) DUE.is("how often there is " + each, count(code, each), 0);
    }

    private static int count(String code, String pattern) {
        int found = 0;
        for (Matcher m = Pattern.compile(pattern).matcher(code); m.find(); ) found++;
        return found;
    }

    private static void exceptions(String code) {
        for (Matcher m = Pattern.compile("\\bthrow\\b([^;]*);").matcher(code); m.find(); ) {
            String thrown = m.group(1).trim().replaceFirst("^new (\\w+)\\((\"[^\"]*\")?\\)$", "$1");
            DUE.same("throw " + m.group(1).trim() + " is as told", String.valueOf(EXCEPTIONS.contains(thrown)), "true");
        }
        for (Matcher m = Pattern.compile("\\bcatch\\s*\\(([^)]*)\\)").matcher(code); m.find(); ) {
            for (String caught : m.group(1).replaceFirst("\\w+\\s*$", "").split("\\|")) {
                boolean isTold = EXCEPTIONS.contains(caught.trim()) && !NEVER_CAUGHT.contains(caught.trim());
                DUE.same("catch " + caught.trim() + " is as told", String.valueOf(isTold), "true");
            }
        }
    }

    /** A body begins with a line that ends in ") {" (or in a throws) and ends at a brace as far in as that line. */
    private static void lengths(String code) {
        String[] lines = code.split("\n");
        for (int i = 0; i < lines.length; i++) {
            if (!lines[i].matches("(    |        )\\w[^=;]*\\)( throws [\\w, ]+)? \\{")) continue;
            String end = lines[i].replaceFirst("\\S.*", "") + "}";
            int j = i;
            while (j < lines.length && !lines[j].equals(end)) j++;
            atMost("lines of " + lines[i].trim(), j - i + 1, MOST_LINES);
        }
    }

    private static void atMost(String what, int is, int most) {
        DUE.same(what + ", " + is + ", are " + most + " at most", String.valueOf(is <= most), "true");
    }

    // ---- what is compiled

    private static void members(Class<?> each) {
        int own = 0;
        for (Field field : each.getDeclaredFields()) {
            if (!Modifier.isStatic(field.getModifiers())) {
                own++;
                continue;
            }
            Class<?> type = field.getType();
            boolean isConstant = type.isPrimitive() || type == String.class || type.isArray() && type.getComponentType().isPrimitive();
            boolean isFinal = Modifier.isFinal(field.getModifiers());
            DUE.same(field + " is a constant", String.valueOf(isConstant && isFinal), "true");
        }
        atMost("fields of " + each, own, MOST_FIELDS);
        List<Executable> bodies = new ArrayList<>(Arrays.asList(each.getDeclaredMethods()));
        bodies.addAll(Arrays.asList(each.getDeclaredConstructors()));
        for (Executable body : bodies) atMost("parameters of " + body, body.getParameterCount(), MOST_PARAMETERS);
    }

    /** All that the class file refers to in the Java library, as "Class.member". */
    private static void library(Class<?> each) throws IOException {
        String file = each.getName() + ".class";
        try (InputStream bytes = LanguageTest.class.getResourceAsStream("/" + file)) {
            for (String used : usedBy(new DataInputStream(bytes))) {
                String simple = used.replaceFirst("^java/(lang|util)/", "");
                String owner = simple.replaceFirst("\\..*", "");
                boolean isOwn = owner.startsWith("OncePerRoad");
                boolean isException = EXCEPTIONS.contains(owner) && simple.endsWith(".<init>");
                boolean isTold = isOwn || isException || LIBRARY.contains(simple);
                DUE.same(file + " uses " + used + ", as told", String.valueOf(isTold), "true");
            }
        }
    }

    private static Set<String> usedBy(DataInputStream in) throws IOException {
        in.readInt();
        in.readInt();
        int size = in.readUnsignedShort();
        int[][] two = new int[size][2];
        int[] tags = new int[size];
        String[] texts = new String[size];
        for (int i = 1; i < size; i++) {
            tags[i] = in.readUnsignedByte();
            switch (tags[i]) {
                case 1: texts[i] = in.readUTF(); break;
                case 3: case 4: in.readInt(); break;
                case 5: case 6: in.readLong(); i++; break;
                case 7: case 8: case 16: two[i][0] = in.readUnsignedShort(); break;
                case 9: case 10: case 11: case 12:
                    two[i][0] = in.readUnsignedShort();
                    two[i][1] = in.readUnsignedShort();
                    break;
                default: throw new IOException("rule 2 leaves no such constant (of a lambda, a reference): " + tags[i]);
            }
        }
        Set<String> used = new TreeSet<>();
        for (int i = 1; i < size; i++) {
            if (tags[i] < 9 || tags[i] > 11) continue;
            String owner = texts[two[two[i][0]][0]];
            used.add(owner + "." + texts[two[two[i][1]][0]]);
        }
        return used;
    }

    // ---- what a call makes

    /** Every call but those that must make a CARRIER or a FAILURE makes nothing, however often. */
    private static void room() {
        com.sun.management.ThreadMXBean threads = (com.sun.management.ThreadMXBean) ManagementFactory.getThreadMXBean();
        OncePerRoad x = dear();
        makesNothing(x);
        x = dear();
        long before = threads.getThreadAllocatedBytes(Thread.currentThread().getId());
        makesNothing(x);
        long made = threads.getThreadAllocatedBytes(Thread.currentThread().getId()) - before;
        // to ask it makes something itself, of some dozen bytes
        DUE.same("bytes made by " + made + " are next to none", String.valueOf(made < 500), "true");
        before = threads.getThreadAllocatedBytes(Thread.currentThread().getId());
        new OncePerRoad();
        made = threads.getThreadAllocatedBytes(Thread.currentThread().getId()) - before;
        DUE.same("an object of " + made + " bytes is small", String.valueOf(made < 10000), "true");
    }

    private static OncePerRoad dear() {
        OncePerRoad x = Lands.of("p6;r122;r253;r203;r328;r148;r153;r154;r153;r501;c34;c78;c23;c06;c29;c60;");
        Lands.tell(x, 0, 0, 0, 0, 1, 5, 1, 1, 5, 0, 2, 2, 2, 5, 3, 3, 3, 5, 4, 0, 2, 3);
        Lands.tell(x, 1, 2, 0, 0, 1, 1, 2, 2);
        return x;
    }

    private static void makesNothing(OncePerRoad x) {
        for (int i = 0; i < 12; i++) {
            x.orders(0, i % 2);
            x.run(0, i % 2);
            x.seeded(30, i);
            x.judge(1);
            x.often(i % 6, 0, 0, 5);
            x.way(i % 6, 1, 0, 5, i % 3);
            x.step(i % 6, 1, 0, 5, 0);
            x.far(1, 0, 5);
            x.many(1, 0, 5, i % 2);
            x.served(1, 0, 62, i % 2);
            x.spite(1, 0, 5, i % 2);
            x.worth(i % 9, 1, 0, 5);
            x.newly(1, 0, 5, i % 2);
            x.round(1, i % 6);
            x.image();
            x.go(i % 6, i % 4, 0, 5);
            x.nick(i % 9, 2, 1);
            x.restore();
            x.road(i % 9, 3);
            x.carrier(i % 6, 0);
            x.count(3);
            x.row(2, i % 3, 100);
            x.put(2, i, i);
            x.element(2, i);
            x.copy(2, 0, 2, 50, 50);
            x.wage(0);
            x.land(2);
        }
    }
}
