import java.lang.reflect.Constructor;
import java.lang.reflect.Field;
import java.lang.reflect.Method;
import java.lang.reflect.Modifier;
import java.util.Arrays;
import java.util.Set;
import java.util.TreeSet;

/** The face of the class is that of the document, and it has no other member that others see. */
public final class FaceTest {
    private static final Checks CHECKS = new Checks();
    private static final String OUTSIDE = "java.lang.IndexOutOfBoundsException";
    private static final String ARGUMENT = "java.lang.IllegalArgumentException";
    private static final String STATE = "java.lang.IllegalStateException";

    private static final String[] FACE = {
        "public int RadixHearth.light(int,int) throws " + OUTSIDE + "," + ARGUMENT + "," + STATE,
        "public int RadixHearth.fade(int,int) throws " + OUTSIDE + "," + STATE + "," + ARGUMENT,
        "public int RadixHearth.quench(int) throws " + OUTSIDE + "," + STATE,
        "public int RadixHearth.rake(int) throws " + OUTSIDE + "," + STATE,
        "public int RadixHearth.raise(int,int) throws " + OUTSIDE + "," + ARGUMENT,
        "public int RadixHearth.pour(int) throws " + OUTSIDE + "," + STATE,
        "public int RadixHearth.many(int,int) throws " + OUTSIDE,
        "public int RadixHearth.lies(int,int,int) throws " + OUTSIDE,
        "public int RadixHearth.bucketOf(int,int) throws " + OUTSIDE + "," + ARGUMENT,
        "public int RadixHearth.about(int,int) throws " + OUTSIDE,
        "public int RadixHearth.told(int,int) throws " + OUTSIDE,
        "public int RadixHearth.count(int) throws " + OUTSIDE,
        "public int RadixHearth.next(int,int) throws " + OUTSIDE,
        "public int RadixHearth.moves(int,int) throws " + OUTSIDE + "," + ARGUMENT,
        "public int RadixHearth.highest(int) throws " + OUTSIDE,
        "public int RadixHearth.advise(int) throws " + OUTSIDE,
        "public double RadixHearth.mean()",
        "public long RadixHearth.digest()",
    };

    public static void main(String[] args) {
        CHECKS.due("modifiers", Modifier.toString(RadixHearth.class.getModifiers()), "public final");
        Constructor<?>[] made = RadixHearth.class.getDeclaredConstructors();
        CHECKS.due("constructors", Arrays.toString(made), "[public RadixHearth()]");
        Set<String> seen = new TreeSet<>();
        Set<String> names = new TreeSet<>();
        for (Method method : RadixHearth.class.getDeclaredMethods()) {
            if (!Modifier.isPrivate(method.getModifiers())) {
                seen.add(method.toString());
                names.add(method.getName());
            }
        }
        CHECKS.due("methods", seen, new TreeSet<>(Arrays.asList(FACE)));
        for (Field field : RadixHearth.class.getDeclaredFields()) {
            CHECKS.due("private " + field.getName(), Modifier.isPrivate(field.getModifiers()), true);
            staticsAreFinal(field);
        }
        for (Method method : RadixHearth.class.getDeclaredMethods()) {
            boolean hidden = Modifier.isPrivate(method.getModifiers());
            CHECKS.due("hidden " + method.getName(), hidden && names.contains(method.getName()), false);
        }
        for (Class<?> inner : RadixHearth.class.getDeclaredClasses()) {
            CHECKS.due("public " + inner.getName(), Modifier.isPublic(inner.getModifiers()), false);
            for (Method method : inner.getDeclaredMethods()) {
                CHECKS.due("name of " + method, names.contains(method.getName()), false);
            }
            for (Field field : inner.getDeclaredFields()) {
                staticsAreFinal(field);
            }
        }
        CHECKS.end("FaceTest");
    }

    private static void staticsAreFinal(Field field) {
        int modifiers = field.getModifiers();
        CHECKS.due("final " + field, !Modifier.isStatic(modifiers) || Modifier.isFinal(modifiers), true);
    }
}
