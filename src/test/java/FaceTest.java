import java.lang.reflect.Constructor;
import java.lang.reflect.Field;
import java.lang.reflect.Method;
import java.lang.reflect.Modifier;
import java.util.Arrays;
import java.util.TreeSet;

/** The face of the class: the document's headers, and nothing else that can be seen from outside. */
public final class FaceTest {
    private static final String[] HEADERS = {
        "land(int)", "road(int,int)", "carrier(int,int)", "hires(int)", "nick(int,int,int)",
        "way(int,int,int,int,int)", "step(int,int,int,int,int)", "go(int,int,int,int)", "far(int,int,int)",
        "many(int,int,int,int)", "served(int,int,int,int)", "spite(int,int,int,int)", "worth(int,int,int,int)",
        "newly(int,int,int,int)", "round(int,int)", "often(int,int,int,int)", "run(int,int)", "orders(int,int)",
        "seeded(int,int)", "judge(int)", "image()", "restore()", "count(int)", "keep(int,int,int,int)",
        "row(int,int,int)", "put(int,int,int)", "element(int,int)", "copy(int,int,int,int,int)", "wage(int)", "toss(int)",
    };

    private static int wrong;

    private static void due(String what, Object got, Object want) {
        if (got.equals(want)) return;
        wrong++;
        System.out.println(what + ": is " + got + ", due is " + want);
    }

    public static void main(String[] args) {
        Class<?> face = OncePerRoad.class;
        due("the class", Modifier.toString(face.getModifiers()), "public final");
        due("its constructors", face.getDeclaredConstructors().length, 1);
        for (Constructor<?> made : face.getDeclaredConstructors()) {
            due("the constructor", made.toString(), "public OncePerRoad()");
        }
        TreeSet<String> seen = new TreeSet<>();
        TreeSet<String> publicNames = new TreeSet<>();
        for (Method method : face.getDeclaredMethods()) {
            if (Modifier.isPrivate(method.getModifiers())) continue;
            String header = method.toGenericString().replace("OncePerRoad.", "");
            String result = method.getName().equals("element") ? "long " : "int ";
            String thrown = method.getName().equals("element")
                    ? " throws java.lang.IllegalArgumentException,java.lang.IllegalStateException" : "";
            String parameters = header.replaceFirst("^public \\w+ ", "").replaceFirst(" throws .*", "");
            due(parameters, header, "public " + result + parameters + thrown);
            seen.add(parameters);
            publicNames.add(method.getName());
        }
        due("the calls", seen, new TreeSet<>(Arrays.asList(HEADERS)));
        for (Field field : face.getDeclaredFields()) {
            due("the field " + field.getName() + " is private", Modifier.isPrivate(field.getModifiers()), true);
            boolean isOwn = !Modifier.isStatic(field.getModifiers());
            due("the field " + field.getName() + " is kept in the object or final",
                    isOwn || Modifier.isFinal(field.getModifiers()), true);
        }
        for (Class<?> inside : face.getDeclaredClasses()) {
            due(inside + " is static", Modifier.isStatic(inside.getModifiers()), true);
            boolean isOutside = Modifier.isPublic(inside.getModifiers()) || Modifier.isProtected(inside.getModifiers());
            due(inside + " is seen outside", isOutside, false);
        }
        for (Class<?> each : allClasses(face)) {
            for (Method method : each.getDeclaredMethods()) {
                boolean isTwin = Modifier.isPrivate(method.getModifiers()) && publicNames.contains(method.getName());
                due("private " + method.getName() + " bears a public name", isTwin, false);
            }
        }
        System.out.println("FaceTest: " + HEADERS.length + " headers, " + wrong + " wrong");
        if (wrong != 0) System.exit(1);
    }

    private static Class<?>[] allClasses(Class<?> face) {
        Class<?>[] inside = face.getDeclaredClasses();
        Class<?>[] all = Arrays.copyOf(inside, inside.length + 1);
        all[inside.length] = face;
        return all;
    }
}
