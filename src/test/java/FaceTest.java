import java.lang.reflect.Constructor;
import java.lang.reflect.Field;
import java.lang.reflect.Member;
import java.lang.reflect.Method;
import java.lang.reflect.Modifier;
import java.util.Arrays;
import java.util.Set;
import java.util.TreeSet;

/** The public face is the document's, and nothing else of the class can be seen from outside. */
public final class FaceTest {
    private static final Check check = new Check();

    private static final Set<String> FACE = new TreeSet<>(Set.of(
        "boolean weekday(int, int, int)", "boolean month(int, int, int)", "boolean holiday(int)",
        "int road(int, int, int)", "boolean shape(int, int)", "boolean count(int, int, int)", "long year(int)",
        "long span(int, int)", "int best(int)", "int how(int)", "long load(int)", "int balances(int)",
        "long balance(int)", "int does(int)", "int plan()", "int feed(int, int, int, int, int)",
        "int rules(int)", "int pass(int, int)", "int kinds(int, int)", "long whole(int)",
        "int look(int, int)", "int tell(int)"));

    public static void main(String[] args) {
        Set<String> found = new TreeSet<>();
        for (Method m : RoadCounts.class.getDeclaredMethods()) {
            if (isSeen(m)) {
                found.add(signature(m));
                check.due(m + " is public, not static", m.getModifiers(), Modifier.PUBLIC);
            }
        }
        check.due("methods " + found, found.equals(FACE), true);
        for (Field f : RoadCounts.class.getDeclaredFields()) {
            check.due(f + " is seen", isSeen(f), f.getName().equals("NONE"));
        }
        Constructor<?>[] constructors = RoadCounts.class.getDeclaredConstructors();
        check.due("constructors", constructors.length, 1);
        check.due("its modifiers", constructors[0].getModifiers(), Modifier.PUBLIC);
        check.due("class", RoadCounts.class.getModifiers(), Modifier.PUBLIC | Modifier.FINAL);
        for (Class<?> inside : RoadCounts.class.getDeclaredClasses()) {
            check.due(inside + " is static", Modifier.isStatic(inside.getModifiers()), true);
            check.due(inside + " is not public", Modifier.isPublic(inside.getModifiers()), false);
            for (Method m : inside.getDeclaredMethods()) {
                boolean taken = FACE.stream().anyMatch(s -> s.contains(" " + m.getName() + "("));
                check.due(m + " bears a public name", taken, false);
            }
        }
        check.end("FaceTest");
    }

    private static boolean isSeen(Member m) {
        return !Modifier.isPrivate(m.getModifiers()) && !m.isSynthetic();
    }

    private static String signature(Method m) {
        String types = Arrays.toString(m.getParameterTypes());
        return m.getReturnType() + " " + m.getName() + "(" + types.substring(1, types.length() - 1) + ")";
    }
}
