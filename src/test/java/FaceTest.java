import java.lang.reflect.Constructor;
import java.lang.reflect.Field;
import java.lang.reflect.Method;
import java.lang.reflect.Modifier;
import java.util.Arrays;
import java.util.Set;
import java.util.TreeSet;

/** The public face: the document's members, and no other one that isn't private. */
public final class FaceTest {
    private static final Due due = new Due();
    static final String FACE = "fill3 cell2 guard2 sight1 bather2 of2 change3 go1 now1 seen0L ahead2 out1 caught1 meet2 "
        + "kindFor1 sightFor1 way2 next2 steamFor2 row0 post1 posted1 trap2 enough0 fits1 swaps0 swap2 tax2 boilers2L "
        + "steams1 seed1 feed2 wipe0 text0 hold2 as2 sheet3 write3 copy5 load1 judge1 image0 undo0 tear0 count1 status1";

    public static void main(String[] args) {
        methods();
        constructor();
        fields();
        due.holds("public and final", Modifier.isPublic(BathBorder.class.getModifiers())
            && Modifier.isFinal(BathBorder.class.getModifiers()));
        due.holds("no package", BathBorder.class.getPackageName().isEmpty());
        due.end();
    }

    private static void methods() {
        Set<String> wanted = new TreeSet<>(Arrays.asList(FACE.split(" ")));
        Set<String> has = new TreeSet<>();
        for (Method m : BathBorder.class.getDeclaredMethods()) {
            if (Modifier.isPublic(m.getModifiers())) {
                has.add(m.getName() + m.getParameterCount() + (m.getReturnType() == long.class ? "L" : ""));
                due.holds(m.getName() + " answers a number", m.getReturnType() == long.class || m.getReturnType() == int.class);
                due.holds(m.getName() + " is no static one", !Modifier.isStatic(m.getModifiers()));
                for (Class<?> p : m.getParameterTypes()) {
                    due.holds(m.getName() + " takes ints", p == int.class);
                }
            } else {
                due.holds(m.getName() + " is private", Modifier.isPrivate(m.getModifiers()));
            }
        }
        due.holds("the face is " + wanted + ", not " + has, wanted.equals(has));
        due.is("47 promises", 47, has.size() + 1);
    }

    private static void constructor() {
        Constructor<?>[] constructors = BathBorder.class.getDeclaredConstructors();
        due.is("one constructor", 1, constructors.length);
        due.holds("a public one", Modifier.isPublic(constructors[0].getModifiers()));
        due.is("that takes nothing", 0, constructors[0].getParameterCount());
    }

    private static void fields() {
        for (Field f : BathBorder.class.getDeclaredFields()) {
            due.holds(f.getName() + " is private", Modifier.isPrivate(f.getModifiers()));
        }
    }
}
