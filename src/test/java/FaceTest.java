import java.lang.reflect.Constructor;
import java.lang.reflect.Field;
import java.lang.reflect.Method;
import java.lang.reflect.Modifier;
import java.util.ArrayList;
import java.util.Arrays;
import java.util.List;
import java.util.Set;
import java.util.TreeSet;

/** The document's public face, and rule 1 of LANGUAGE.md: just this, and nothing beside it. */
public final class FaceTest {
    private static final String[] FACE = {"int feed(int,int,int,int,int)", "boolean end(int)", "int upland()",
        "int fault(int)", "int has(int)", "int letter(int,int,int)", "int lure(int)", "int gap(int,int)",
        "int sheep(int,int)", "int seen(int,int)", "int strays(int)", "int brings(int)", "int kept(int,int)",
        "int later(int,int,int)", "int home(int)", "int gaps(int,int,int)", "int rumour(int,int)", "int way(int,int)",
        "int waits(int,int,int)", "int coat(int)", "int watch(int)", "long ways(int,int,int)", "int feel()",
        "int curious(int)", "int tells(int,int)", "int shear(int)", "boolean lead(int,int)", "boolean swing(int,int)",
        "boolean tell(int,int,int)", "int days(int)", "int chance(int)", "boolean undo()", "boolean seed(int)",
        "long ask()", "int image()", "int octet(int)", "boolean on()", "int status(int)"};

    public static void main(String[] args) {
        Due.is("NONE", StrayWool.NONE, -1);
        Due.is("NOTHING", StrayWool.NOTHING, -1000000000000000L);
        Due.is("public", Modifier.isPublic(StrayWool.class.getModifiers()), true);
        Due.is("final", Modifier.isFinal(StrayWool.class.getModifiers()), true);
        methods();
        fields();
        constructors();
        inside();
        Due.close("FaceTest");
    }

    private static void methods() {
        Set<String> open = new TreeSet<>();
        Set<String> names = new TreeSet<>();
        for (Method m : StrayWool.class.getDeclaredMethods()) {
            if (Modifier.isPublic(m.getModifiers()) && !Modifier.isStatic(m.getModifiers())) {
                List<String> types = new ArrayList<>();
                Arrays.stream(m.getParameterTypes()).forEach(t -> types.add(t.getName()));
                open.add(m.getReturnType().getName() + " " + m.getName() + "(" + String.join(",", types) + ")");
                names.add(m.getName());
            }
        }
        Due.is("methods " + open, open.equals(new TreeSet<>(Arrays.asList(FACE))), true);
        for (Method m : StrayWool.class.getDeclaredMethods()) {
            if (!Modifier.isPublic(m.getModifiers()) && !m.isSynthetic()) {
                Due.is(m.getName() + " is private", Modifier.isPrivate(m.getModifiers()), true);
                Due.is(m.getName() + " is a public one's name", names.contains(m.getName()), false);
            }
        }
    }

    private static void fields() {
        for (Field f : StrayWool.class.getDeclaredFields()) {
            boolean told = f.getName().equals("NONE") || f.getName().equals("NOTHING");
            Due.is(f.getName(), Modifier.isPublic(f.getModifiers()), told);
            Due.is(f.getName(), Modifier.isPrivate(f.getModifiers()), !told);
        }
    }

    private static void constructors() {
        Constructor<?>[] all = StrayWool.class.getDeclaredConstructors();
        Due.is("one constructor", all.length, 1);
        Due.is("public", Modifier.isPublic(all[0].getModifiers()), true);
        Due.is("without parameters", all[0].getParameterCount(), 0);
    }

    private static void inside() {
        for (Class<?> c : StrayWool.class.getDeclaredClasses()) {
            Due.is(c.getName() + " is static", Modifier.isStatic(c.getModifiers()), true);
            Due.is(c.getName() + " is public", Modifier.isPublic(c.getModifiers()), false);
        }
    }
}
