import java.lang.reflect.Constructor;
import java.lang.reflect.Field;
import java.lang.reflect.Method;
import java.lang.reflect.Modifier;
import java.util.Set;
import java.util.TreeSet;

/** The public face, and rule 1 of LANGUAGE.md: nothing else of the class can be seen. */
public final class FaceTest {
    private static final Due due = new Due();

    public static void main(String[] args) {
        due.is("NONE", MovieBoxes.NONE, -1000);
        due.is("BAD", MovieBoxes.BAD, -1);
        due.is("FULL", MovieBoxes.FULL, -2);
        due.is("the class is public and final", MovieBoxes.class.getModifiers(), Modifier.PUBLIC | Modifier.FINAL);
        methods();
        fields();
        constructors();
        classesInside();
        due.end();
    }

    private static void methods() {
        Set<String> want = new TreeSet<>(Set.of("int append(long,int)", "int poke(int,int)", "boolean cut(int)", "int length()",
            "int peek(int)", "int check()", "int boxes()", "int box(int,int)", "int tracks()", "int samples(int)",
            "int sample(int,int,int)", "int shown(int,int)", "int fastStart()"));
        Set<String> publicNames = new TreeSet<>();
        Set<String> seen = new TreeSet<>();
        for (Method m : MovieBoxes.class.getDeclaredMethods()) {
            if (!Modifier.isPrivate(m.getModifiers())) {
                seen.add(m.toString().replace("public ", "").replace("MovieBoxes.", ""));
                publicNames.add(m.getName());
            }
        }
        due.is("the methods " + seen, seen.equals(want), true);
        for (Method m : MovieBoxes.class.getDeclaredMethods()) {
            boolean isPrivate = Modifier.isPrivate(m.getModifiers());
            due.is("a private method " + m.getName(), isPrivate && publicNames.contains(m.getName()), false);
        }
    }

    private static void fields() {
        Set<String> seen = new TreeSet<>();
        for (Field f : MovieBoxes.class.getDeclaredFields()) {
            if (!Modifier.isPrivate(f.getModifiers())) {
                seen.add(f.toString());
            }
        }
        due.is("the constants " + seen, seen.equals(Set.of("public static final int MovieBoxes.NONE",
            "public static final int MovieBoxes.BAD", "public static final int MovieBoxes.FULL")), true);
    }

    private static void constructors() {
        Constructor<?>[] all = MovieBoxes.class.getDeclaredConstructors();
        due.is("constructors", all.length, 1);
        due.is("its parameters", all[0].getParameterCount(), 0);
        due.is("it is public", Modifier.isPublic(all[0].getModifiers()), true);
    }

    private static void classesInside() {
        for (Class<?> inside : MovieBoxes.class.getDeclaredClasses()) {
            int modifiers = inside.getModifiers();
            due.is(inside + " is static", Modifier.isStatic(modifiers), true);
            due.is(inside + " is public or protected", Modifier.isPublic(modifiers) || Modifier.isProtected(modifiers), false);
        }
        due.is("at most twelve classes", MovieBoxes.class.getDeclaredClasses().length < 12, true);
    }
}
