import java.lang.reflect.InvocationTargetException;
import java.lang.reflect.Method;
import java.lang.reflect.Modifier;
import java.util.ArrayList;
import java.util.Arrays;
import java.util.Comparator;
import java.util.List;
import java.util.Random;

/** Random runs of calls, each answered by the class and by the plain model. */
public final class ModelTest {
    private static final int RUNS = 1500;
    private static final int CALLS = 400;
    private static final int[] ODD = {-1, -2, 100, 101, 256, 65536, Integer.MAX_VALUE, Integer.MIN_VALUE};

    private final Random random;
    private final OncePerRoad real = new OncePerRoad();
    private final PlainModel model = new PlainModel();
    private final List<Method> face;
    private final List<String> trace = new ArrayList<>();
    private boolean isWrong;
    private int calls;

    private ModelTest(long seed, List<Method> face) {
        random = new Random(seed);
        this.face = face;
    }

    public static void main(String[] args) throws Exception {
        int wrong = 0;
        for (int run = 0; run < RUNS && wrong < 5; run++) {
            ModelTest test = new ModelTest(run, face());
            test.play();
            if (test.isWrong) {
                wrong++;
                System.out.println("run " + run + ": " + String.join("; ", test.trace));
            }
        }
        System.out.println("ModelTest: " + RUNS + " runs, " + wrong + " wrong");
        if (wrong != 0) System.exit(1);
    }

    private static List<Method> face() {
        List<Method> face = new ArrayList<>();
        for (Method method : OncePerRoad.class.getDeclaredMethods()) {
            if (Modifier.isPublic(method.getModifiers())) face.add(method);
        }
        face.sort(Comparator.comparing(Method::getName));
        return face;
    }

    private void play() throws Exception {
        readText(0, landText());
        while (calls < CALLS && !isWrong) {
            int die = random.nextInt(60);
            if (die == 0) {
                readText(random.nextInt(8), landText());
            } else if (die < 4) {
                tellCarriages();
            } else if (die == 4) {
                tellJudged();
            } else {
                Method method = face.get(random.nextInt(face.size()));
                // a row that is told anew too often leaves nothing on the shelves to look at
                if (method.getName().equals("row") && random.nextInt(3) > 0) continue;
                call(method.getName(), argumentsFor(method.getName(), method.getParameterCount()));
            }
        }
    }

    private void call(String name, int... arguments) throws Exception {
        if (isWrong) return;
        calls++;
        Method method = null;
        for (Method each : face) if (each.getName().equals(name)) method = each;
        long got;
        try {
            Object[] boxed = new Object[arguments.length];
            for (int i = 0; i < boxed.length; i++) boxed[i] = arguments[i];
            got = ((Number) method.invoke(real, boxed)).longValue();
        } catch (InvocationTargetException e) {
            Class<?> thrown = e.getCause().getClass();
            got = thrown == IllegalArgumentException.class ? PlainModel.NO_SUCH_SHELF
                    : thrown == IllegalStateException.class ? PlainModel.NO_SUCH_ELEMENT : Long.MAX_VALUE;
        }
        long due = model.answer(name, arguments);
        trace.add(name + Arrays.toString(arguments) + "=" + got);
        if (got != due) {
            isWrong = true;
            trace.add("due is " + due);
        }
    }

    private int some(int below) {
        if (random.nextInt(40) == 0) return ODD[random.nextInt(ODD.length)];
        if (random.nextInt(40) == 0) return below;
        return below < 1 ? 0 : random.nextInt(below);
    }

    private int[] argumentsFor(String name, int n) {
        switch (name) {
            case "road": return new int[] {some(model.roads()), some(4)};
            case "carrier": return new int[] {some(model.carriers()), some(2)};
            case "nick": return new int[] {some(model.roads()), some(4), some(2)};
            case "way": return carriage(some(3));
            case "step": return carriage(some(5));
            case "go": case "often": return Arrays.copyOf(carriage(0), 4);
            case "far": return new int[] {some(4), place(), place()};
            case "many": case "spite": case "newly": return new int[] {some(4), place(), place(), some(2)};
            case "served": return served();
            case "worth": return new int[] {some(model.roads()), some(4), place(), place()};
            case "round": return new int[] {some(4), place()};
            case "run": case "orders": return new int[] {some(8), some(2)};
            case "seeded": return new int[] {some(31), random.nextInt()};
            case "count": return new int[] {some(5)};
            case "keep": return new int[] {some(8), some(20) == 0 ? 0 : 1, some(8), some(10)};
            case "row": return new int[] {some(8), some(3), random.nextInt(112) - 5};
            case "put": return new int[] {some(8), some(24), random.nextInt(4) == 0 ? random.nextInt() : some(10)};
            case "element": return new int[] {some(8), some(24)};
            case "copy": return new int[] {some(8), some(20), some(8), some(20), some(12)};
            default:
                int[] shelf = new int[n];
                for (int i = 0; i < n; i++) shelf[i] = some(8);
                return shelf;
        }
    }

    private int place() {
        return some(model.places());
    }

    private int[] carriage(int last) {
        return new int[] {some(model.carriers()), some(4), place(), place(), last};
    }

    private int[] served() {
        int a = place();
        int villages = some(1 << model.places());
        if (random.nextInt(8) > 0) villages &= ~(1 << a);
        return new int[] {some(4), a, villages, some(2)};
    }

    private char digit(int below) {
        return (char) ('0' + (random.nextInt(60) == 0 ? random.nextInt(10) : below < 1 ? 0 : random.nextInt(below)));
    }

    /** A text that is most often well told, so that whole lands come. */
    private String landText() {
        int places = Math.max(model.places(), 2 + random.nextInt(5));
        StringBuilder text = new StringBuilder("p" + places + ";");
        int roads = model.roads();
        int carriers = model.carriers();
        int statements = 1 + random.nextInt(16);
        while (statements-- > 0) {
            int die = random.nextInt(20);
            if (die < 12 && roads < 9) {
                int a = random.nextInt(places);
                int b = (a + 1 + random.nextInt(places - 1)) % places;
                text.append('r').append(a).append(b).append((char) (digit(9) + 1));
                roads++;
            } else if (die < 18 && carriers < 6) {
                text.append('c').append(digit(8)).append(digit(10));
                carriers++;
            } else if (die == 18 && roads > 0) {
                text.append('u').append(digit(roads)).append(digit(4));
            } else if (die == 19 && carriers > 0) {
                text.append('g').append(digit(carriers)).append(digit(4)).append(digit(places)).append(digit(places));
            } else {
                continue;
            }
            text.append(';');
        }
        if (random.nextInt(10) == 0) text.setCharAt(random.nextInt(text.length()), (char) random.nextInt(256));
        if (random.nextInt(10) == 0) text.setLength(random.nextInt(text.length()));
        return text.toString();
    }

    private void readText(int d, String text) throws Exception {
        call("row", d, 0, text.length());
        for (int i = 0; i < text.length(); i++) call("put", d, i, text.charAt(i));
        call("land", d);
    }

    private void tellCarriages() throws Exception {
        int d = random.nextInt(8);
        int n = random.nextInt(6);
        call("row", d, 0, 4 * n);
        for (int k = 0; k < n; k++) {
            int a = model.places() < 1 ? 0 : random.nextInt(model.places());
            int b = (a + 1 + random.nextInt(model.places() - 1)) % model.places();
            int[] told = {random.nextInt(Math.max(1, model.carriers())), random.nextInt(4), a, b};
            if (random.nextInt(30) == 0) told[random.nextInt(4)] = some(6);
            for (int i = 0; i < 4; i++) call("put", d, 4 * k + i, told[i]);
        }
        for (int what = 0; what < 2; what++) {
            call("run", d, what);
            call("orders", d, what);
        }
    }

    private void tellJudged() throws Exception {
        int d = random.nextInt(8);
        int n = random.nextInt(10);
        call("row", d, random.nextInt(3), n);
        for (int i = 0; i < n; i++) call("put", d, i, i % 2 == 0 ? some(model.roads()) : some(4));
        call("judge", d);
    }
}
