import java.lang.reflect.InvocationTargetException;
import java.lang.reflect.Method;

/** Makes objects, calls them by name, and looks at all that there is in one. */
final class Lands {
    static final int TEXT_SHELF = 7;
    static final int MAX = Integer.MAX_VALUE;
    static final int MIN = Integer.MIN_VALUE;
    /** Answers of those calls that throw; no call answers so. */
    static final long NO_SUCH_SHELF = Long.MIN_VALUE;
    static final long NO_SUCH_ELEMENT = Long.MIN_VALUE + 1;
    static final long NOT_TOLD = Long.MIN_VALUE + 2;

    private Lands() {
    }

    /** A new object, into which the text has been read. */
    static OncePerRoad of(String text) {
        OncePerRoad x = new OncePerRoad();
        if (read(x, text) < 1) throw new IllegalStateException("the test's own land doesn't come: " + text);
        return x;
    }

    static int read(OncePerRoad x, String text) {
        tell(x, TEXT_SHELF, 0, text.chars().toArray());
        return x.land(TEXT_SHELF);
    }

    static void tell(OncePerRoad x, int d, int sort, int... values) {
        x.row(d, sort, values.length);
        for (int i = 0; i < values.length; i++) {
            if (values[i] != 0) x.put(d, i, values[i]);
        }
    }

    static long answer(OncePerRoad x, String name, int... arguments) {
        Object[] boxed = new Object[arguments.length];
        for (int i = 0; i < boxed.length; i++) boxed[i] = arguments[i];
        try {
            return ((Number) methodOf(name).invoke(x, boxed)).longValue();
        } catch (InvocationTargetException e) {
            Class<?> thrown = e.getCause().getClass();
            if (thrown == IllegalArgumentException.class) return NO_SUCH_SHELF;
            return thrown == IllegalStateException.class ? NO_SUCH_ELEMENT : NOT_TOLD;
        } catch (IllegalAccessException e) {
            throw new IllegalStateException(e);
        }
    }

    private static Method methodOf(String name) {
        for (Method method : OncePerRoad.class.getMethods()) {
            if (method.getName().equals(name)) return method;
        }
        throw new IllegalStateException("no call " + name);
    }

    static String told(String name, int... arguments) {
        StringBuilder text = new StringBuilder(name).append('(');
        for (int i = 0; i < arguments.length; i++) text.append(i == 0 ? "" : ", ").append(arguments[i]);
        return text.append(')').toString();
    }

    /** All that can be seen of an object, which is of no more use behind this. */
    static String look(OncePerRoad x) {
        StringBuilder seen = new StringBuilder();
        lookAtLand(x, seen);
        for (int d = 0; d < 8; d++) lookAtShelf(x, d, seen);
        seen.append(" image ").append(x.restore());
        lookAtLand(x, seen);
        return seen.toString();
    }

    private static void lookAtLand(OncePerRoad x, StringBuilder seen) {
        for (int what = 0; what < 5; what++) seen.append(' ').append(x.count(what));
        for (int r = 0; r < x.count(1); r++) {
            seen.append(" r");
            for (int what = 0; what < 4; what++) seen.append(' ').append(x.road(r, what));
        }
        for (int c = 0; c < x.count(2); c++) {
            seen.append(" c ").append(x.carrier(c, 0)).append(' ').append(x.carrier(c, 1));
        }
    }

    private static void lookAtShelf(OncePerRoad x, int d, StringBuilder seen) {
        int wage = x.wage(d);
        seen.append(" s ").append(wage).append(' ').append(x.toss(d));
        if (wage == -12) {
            long element = answer(x, "element", d, 0);
            for (int i = 1; element != NO_SUCH_ELEMENT; i++) {
                seen.append(' ').append(element);
                element = answer(x, "element", d, i);
            }
            // a byte, a short and an int keep unlike parts of this one
            x.put(d, 0, 40064);
            seen.append(" as ").append(answer(x, "element", d, 0));
        } else if (wage != -11) {
            int number = x.hires(d);
            seen.append(" hired ").append(x.carrier(number, 0)).append(' ').append(x.carrier(number, 1));
        }
    }
}
