import java.lang.reflect.Constructor;
import java.lang.reflect.Field;
import java.lang.reflect.Method;
import java.lang.reflect.Modifier;
import java.util.Arrays;
import java.util.Set;
import java.util.TreeSet;
import java.util.stream.Collectors;

/** The public face as the document tells it, and nothing beside it. */
public final class FaceTest {
    private static final String N = "NoSuchElementException";
    private static final String I = "IllegalArgumentException";
    private static final String[] FACE = {
        "int feed 5", "int valley 1 " + I, "int law 1 " + I, "int work 1 " + I, "int book 1 " + I, "int fault 0",
        "int undo 0", "int told 1 " + I, "int poem 2 " + N + " " + I, "int man 2 " + N + " " + I,
        "int debt 2 " + N + " " + I, "int knows 2 " + N, "int learns 2 " + N, "int would 8 " + I, "int ahead 2 " + I,
        "int lessons 2 " + N, "int pays 1 " + N, "int hardest 1 " + N, "int fits 1 " + I, "int look 1 " + I,
        "long kept 4 " + I, "int fair 3 " + I, "int candles 3 " + N + " " + I, "int fullest 1 " + I, "int free 0",
        "int partners 1 " + N, "int fades 2 " + N, "int next 1 " + I, "int gains 2 " + N,
        "int closest 2 " + N + " " + I, "int best 2 " + N + " " + I, "int chorus 2 " + N + " " + I,
        "int season 4 " + I, "int span 6 " + I, "int image 0", "int restore 0", "int status 1", "int count 1"};

    public static void main(String[] args) {
        Class<?> face = PaidByHeart.class;
        Pen.due("public and final", Modifier.PUBLIC | Modifier.FINAL, () -> face.getModifiers());
        Set<String> wanted = new TreeSet<>(Arrays.asList(FACE));
        Set<String> found = new TreeSet<>();
        Set<String> names = new TreeSet<>();
        for (Method m : face.getDeclaredMethods()) {
            if (Modifier.isPrivate(m.getModifiers())) continue;
            found.add(told(m));
            names.add(m.getName());
        }
        System.out.println(wanted.equals(found) ? "the face is as due" : "due " + wanted + "\nfound " + found);
        Pen.due("methods of the face", 1, () -> wanted.equals(found) ? 1 : 0);
        for (Method m : face.getDeclaredMethods()) {
            if (Modifier.isPrivate(m.getModifiers())) {
                Pen.due("private method " + m.getName(), 0, () -> names.contains(m.getName()) ? 1 : 0);
            }
        }
        for (Constructor<?> c : face.getDeclaredConstructors()) {
            Pen.due("a public constructor without parameters", 1,
                () -> Modifier.isPublic(c.getModifiers()) && c.getParameterCount() == 0 ? 1 : 0);
        }
        for (Field f : face.getDeclaredFields()) {
            boolean isNone = f.getName().equals("NONE");
            Pen.due("field " + f.getName(), 1, () -> Modifier.isPrivate(f.getModifiers()) != isNone ? 1 : 0);
            Pen.due("static " + f.getName(), 1, () -> staticIsFinal(f) ? 1 : 0);
        }
        inner(face, names);
        Pen.due("NONE", -1, () -> PaidByHeart.NONE);
        Pen.end();
    }

    private static void inner(Class<?> face, Set<String> names) {
        Pen.due("some twelve classes", 1, () -> face.getDeclaredClasses().length < 12 ? 1 : 0);
        for (Class<?> c : face.getDeclaredClasses()) {
            int m = c.getModifiers();
            Pen.due(c.getName(), 1,
                () -> Modifier.isStatic(m) && !Modifier.isPublic(m) && !Modifier.isProtected(m) ? 1 : 0);
            for (Field f : c.getDeclaredFields()) Pen.due("static " + f, 1, () -> staticIsFinal(f) ? 1 : 0);
            for (Method n : c.getDeclaredMethods()) {
                Pen.due(c.getName() + "." + n.getName(), 0, () -> names.contains(n.getName()) ? 1 : 0);
                Pen.due("parameters of " + n.getName(), 1, () -> n.getParameterCount() <= 7 ? 1 : 0);
            }
        }
    }

    private static boolean staticIsFinal(Field f) {
        return !Modifier.isStatic(f.getModifiers()) || Modifier.isFinal(f.getModifiers());
    }

    private static String told(Method m) {
        String thrown = Arrays.stream(m.getExceptionTypes()).map(e -> " " + e.getSimpleName())
            .collect(Collectors.joining());
        boolean plain = Arrays.stream(m.getParameterTypes()).allMatch(p -> p == int.class);
        return m.getReturnType() + " " + m.getName() + " " + m.getParameterCount() + (plain ? "" : "?") + thrown;
    }
}
