import java.lang.reflect.Constructor;
import java.lang.reflect.Field;
import java.lang.reflect.Method;
import java.lang.reflect.Modifier;
import java.util.Arrays;
import java.util.Set;
import java.util.TreeSet;

/** The public face is the document's, and no other member can be seen from outside. */
public final class FaceTests {
    private static final Set<String> FACE = new TreeSet<>(Arrays.asList(
            "public static final int REFUSED = -1",
            "public static final int NONE = -2",
            "public static final int FULL = -3",
            "public static final int OPEN = -4",
            "public static final int UNSET = -5",
            "public static final int LOOP = -6",
            "public CircuitDesk()",
            "public int CircuitDesk.signal(int,int,int)",
            "public int CircuitDesk.node(int,int,int,int)",
            "public int CircuitDesk.state(int,int,int)",
            "public int CircuitDesk.clear(int)",
            "public int CircuitDesk.compile()",
            "public int CircuitDesk.where()",
            "public int CircuitDesk.input(int,int)",
            "public int CircuitDesk.clock(int)",
            "public boolean CircuitDesk.reset()",
            "public int CircuitDesk.value(int,boolean)",
            "public int CircuitDesk.tell(int,int)",
            "public int CircuitDesk.count(int)"));

    public static void main(String[] args) throws IllegalAccessException {
        int wrong = 0;
        Set<String> seen = visibleMembers();
        for (String member : FACE) {
            if (!seen.contains(member)) {
                System.out.println("missing: " + member);
                wrong++;
            }
        }
        for (String member : seen) {
            if (!FACE.contains(member)) {
                System.out.println("not in the document: " + member);
                wrong++;
            }
        }
        int modifiers = CircuitDesk.class.getModifiers();
        if (!Modifier.isPublic(modifiers) || !Modifier.isFinal(modifiers)) {
            System.out.println("the class is not public and final");
            wrong++;
        }
        wrong += namesTaken();
        System.out.println(seen.size() + " members seen, " + wrong + " wrong");
        if (wrong != 0) {
            System.exit(1);
        }
    }

    private static Set<String> visibleMembers() throws IllegalAccessException {
        Set<String> seen = new TreeSet<>();
        for (Field f : CircuitDesk.class.getDeclaredFields()) {
            if (!Modifier.isPrivate(f.getModifiers())) {
                String value = Modifier.isStatic(f.getModifiers()) ? " = " + f.get(null) : "";
                seen.add(Modifier.toString(f.getModifiers()) + " " + f.getType() + " " + f.getName() + value);
            }
        }
        for (Constructor<?> c : CircuitDesk.class.getDeclaredConstructors()) {
            if (!Modifier.isPrivate(c.getModifiers())) {
                seen.add(c.toString());
            }
        }
        for (Method m : CircuitDesk.class.getDeclaredMethods()) {
            if (!Modifier.isPrivate(m.getModifiers())) {
                seen.add(m.toString());
            }
        }
        return seen;
    }

    /** Methods, of the classes inside too, that bear the name of a public one. */
    private static int namesTaken() {
        Set<String> names = new TreeSet<>();
        for (Method m : CircuitDesk.class.getDeclaredMethods()) {
            if (Modifier.isPublic(m.getModifiers())) {
                names.add(m.getName());
            }
        }
        int taken = 0;
        for (Method m : CircuitDesk.class.getDeclaredMethods()) {
            taken += Modifier.isPrivate(m.getModifiers()) && names.contains(m.getName()) ? 1 : 0;
        }
        for (Class<?> inside : CircuitDesk.class.getDeclaredClasses()) {
            for (Method m : inside.getDeclaredMethods()) {
                taken += names.contains(m.getName()) ? 1 : 0;
            }
        }
        if (taken != 0) {
            System.out.println(taken + " methods bear the name of a public one");
        }
        return taken;
    }
}
