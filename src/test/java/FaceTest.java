import java.lang.reflect.Constructor;
import java.lang.reflect.Field;
import java.lang.reflect.Method;
import java.lang.reflect.Modifier;
import java.util.Arrays;
import java.util.Set;
import java.util.TreeSet;

/** The public face is the document's, and nothing else is seen from outside. */
public final class FaceTest {
    private static final String IOOBE = "java.lang.IndexOutOfBoundsException";
    private static final String IAE = "java.lang.IllegalArgumentException";
    private static final String UOE = "java.lang.UnsupportedOperationException";

    private static final String[] FACE = {
        "public int QuantileDesk.make(int,int,int) throws " + IAE + "," + UOE,
        "public int QuantileDesk.add(int,int) throws " + IOOBE + "," + UOE,
        "public int QuantileDesk.run(int,int,int,int) throws " + IOOBE + "," + IAE + "," + UOE,
        "public int QuantileDesk.merge(int,int) throws " + IOOBE + "," + IAE + "," + UOE,
        "public int QuantileDesk.rank(int,int) throws " + IOOBE,
        "public int QuantileDesk.value(int,int) throws " + IOOBE + "," + IAE,
        "public int QuantileDesk.bound(int,int,boolean) throws " + IOOBE + "," + IAE,
        "public int QuantileDesk.told(int,int) throws " + IOOBE + "," + IAE,
        "public int QuantileDesk.item(int,int,int) throws " + IOOBE + "," + IAE,
        "public int QuantileDesk.clear(int) throws " + IOOBE,
        "public int QuantileDesk.sketches()",
        "public int QuantileDesk.astray()",
    };

    public static void main(String[] args) {
        int modifiers = QuantileDesk.class.getModifiers();
        Check.due("class is public and final", 1,
                Modifier.isPublic(modifiers) && Modifier.isFinal(modifiers) ? 1 : 0);
        Set<String> seen = new TreeSet<>();
        for (Constructor<?> c : QuantileDesk.class.getDeclaredConstructors()) {
            if (!Modifier.isPrivate(c.getModifiers())) {
                seen.add(c.toGenericString());
            }
        }
        for (Field f : QuantileDesk.class.getDeclaredFields()) {
            if (!Modifier.isPrivate(f.getModifiers())) {
                seen.add(f.toGenericString());
            }
        }
        for (Method m : QuantileDesk.class.getDeclaredMethods()) {
            if (!Modifier.isPrivate(m.getModifiers()) && !m.isSynthetic()) {
                seen.add(m.toGenericString());
            }
        }
        Set<String> want = new TreeSet<>(Arrays.asList(FACE));
        want.add("public QuantileDesk()");
        Check.dueText("face", want.toString(), seen.toString());
        for (Class<?> inner : QuantileDesk.class.getDeclaredClasses()) {
            int m = inner.getModifiers();
            Check.due(inner + " is static and not public or protected", 1,
                    Modifier.isStatic(m) && !Modifier.isPublic(m) && !Modifier.isProtected(m) ? 1 : 0);
        }
        Check.end();
    }
}
