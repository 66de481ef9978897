import java.lang.reflect.Constructor;
import java.lang.reflect.Field;
import java.lang.reflect.Method;
import java.lang.reflect.Modifier;
import java.util.Set;
import java.util.TreeSet;

/** The face is the document's and nothing else (LANGUAGE.md, rules 1 and 5). */
public final class FaceTest {
    private static final Set<String> FACE = Set.of(
            "public int DriveRing.count(int)",
            "public int DriveRing.write(int,int)",
            "public int DriveRing.read(int) throws java.util.NoSuchElementException,java.lang.IllegalStateException",
            "public boolean DriveRing.lose(int)",
            "public boolean DriveRing.replace(int)",
            "public int DriveRing.rebuild(int)",
            "public boolean DriveRing.cut(int)",
            "public int DriveRing.start()",
            "public boolean DriveRing.on()",
            "public int DriveRing.drive(int)",
            "public int DriveRing.stripe(int)",
            "public int DriveRing.word(int,int,int)",
            "public int DriveRing.agree(int)");

    public static void main(String[] args) {
        Class<?> c = DriveRing.class;
        Check.same("modifiers", c.getModifiers(), Modifier.PUBLIC | Modifier.FINAL);
        Check.same("NONE", DriveRing.NONE, -1);
        methods(c);
        fields(c);
        Constructor<?>[] made = c.getDeclaredConstructors();
        Check.same("constructors", made.length, 1);
        Check.yes("constructor", made[0].toString().equals("public DriveRing(int,int)"));
        for (Class<?> inside : c.getDeclaredClasses()) {
            int m = inside.getModifiers();
            Check.no(inside + " is public or protected", Modifier.isPublic(m) || Modifier.isProtected(m));
            Check.yes(inside + " is static", Modifier.isStatic(m));
            fieldsInside(inside);
        }
        Check.done();
    }

    private static void methods(Class<?> c) {
        Set<String> open = new TreeSet<>();
        Set<String> openNames = new TreeSet<>();
        for (Method m : c.getDeclaredMethods()) {
            if (!Modifier.isPrivate(m.getModifiers())) {
                open.add(m.toString());
                openNames.add(m.getName());
            }
        }
        Check.yes("the face is " + open, open.equals(FACE));
        for (Method m : c.getDeclaredMethods()) {
            boolean hidden = Modifier.isPrivate(m.getModifiers());
            Check.no(m + " bears a public name", hidden && openNames.contains(m.getName()));
        }
    }

    private static void fields(Class<?> c) {
        for (Field f : c.getDeclaredFields()) {
            boolean none = f.toString().equals("public static final int DriveRing.NONE");
            Check.yes(f + " is NONE or private", none || Modifier.isPrivate(f.getModifiers()));
            finalIfStatic(f);
        }
    }

    private static void fieldsInside(Class<?> inside) {
        for (Field f : inside.getDeclaredFields()) {
            finalIfStatic(f);
        }
    }

    private static void finalIfStatic(Field f) {
        int m = f.getModifiers();
        Check.yes(f + " is final if static", !Modifier.isStatic(m) || Modifier.isFinal(m));
    }
}
