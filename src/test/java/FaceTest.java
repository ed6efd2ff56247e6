import java.lang.reflect.Constructor;
import java.lang.reflect.Field;
import java.lang.reflect.Method;
import java.lang.reflect.Modifier;
import java.util.Arrays;
import java.util.TreeSet;

/** The public face: exactly the document's, and nothing else to be seen from outside the class. */
public final class FaceTest {
    private static final String[] FACE = {
        "public LeaseDesk()",
        "public int LeaseDesk.open() throws java.lang.IllegalStateException",
        "public int LeaseDesk.close(int) throws java.util.NoSuchElementException",
        "public void LeaseDesk.keep(int) throws java.util.NoSuchElementException",
        "public boolean LeaseDesk.rate(int,int)",
        "public int LeaseDesk.tick(int)",
        "public int LeaseDesk.acquire(int,int,int)"
            + " throws java.util.NoSuchElementException,java.lang.IllegalArgumentException",
        "public void LeaseDesk.release(int,int) throws java.util.NoSuchElementException,"
            + "java.lang.IllegalArgumentException,java.lang.IllegalStateException",
        "public boolean LeaseDesk.cancel(int,int)",
        "public int LeaseDesk.holder(int)",
        "public int LeaseDesk.token(int)",
        "public int LeaseDesk.until(int)",
        "public int LeaseDesk.waiter(int,int)",
        "public int LeaseDesk.time()",
        "public int LeaseDesk.clock(int)",
        "public boolean LeaseDesk.believes(int,int)",
        "public boolean LeaseDesk.write(int,int,int)",
        "public int LeaseDesk.stored(int)",
        "public int LeaseDesk.seen(int)",
    };

    public static void main(String[] args) {
        theFace();
        privateNames();
        classesInside();
        Check.end();
    }

    private static void theFace() {
        Check.same("the class's modifiers", Modifier.toString(LeaseDesk.class.getModifiers()), "public final");
        TreeSet<String> found = new TreeSet<>();
        for (Constructor<?> constructor : LeaseDesk.class.getDeclaredConstructors()) {
            found.add(constructor.toString());
        }
        for (Method method : LeaseDesk.class.getDeclaredMethods()) {
            if (!Modifier.isPrivate(method.getModifiers())) {
                found.add(method.toString());
            }
        }
        for (Field field : LeaseDesk.class.getDeclaredFields()) {
            if (!Modifier.isPrivate(field.getModifiers())) {
                found.add(field.toString());
            }
        }
        Check.same("the face", found.toString(), new TreeSet<>(Arrays.asList(FACE)).toString());
    }

    private static void privateNames() {
        Check.sentence("No private method bears the name of a public one. (LANGUAGE.md, rule 1)");
        TreeSet<String> open = new TreeSet<>();
        for (Method method : LeaseDesk.class.getMethods()) {
            open.add(method.getName());
        }
        for (Method method : LeaseDesk.class.getDeclaredMethods()) {
            boolean isPrivate = Modifier.isPrivate(method.getModifiers());
            Check.same("the name of " + method, isPrivate && open.contains(method.getName()), false);
        }
    }

    private static void classesInside() {
        Check.sentence("the classes inside it, which are private or package-visible and static (LANGUAGE.md, rule 1)");
        for (Class<?> inside : LeaseDesk.class.getDeclaredClasses()) {
            int modifiers = inside.getModifiers();
            boolean isSeen = Modifier.isPublic(modifiers) || Modifier.isProtected(modifiers);
            Check.same(inside + " is kept inside", isSeen, false);
            Check.same(inside + " is static", Modifier.isStatic(modifiers), true);
        }
    }
}
