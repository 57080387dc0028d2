import java.lang.reflect.Constructor;
import java.lang.reflect.Field;
import java.lang.reflect.Member;
import java.lang.reflect.Method;
import java.lang.reflect.Modifier;
import java.util.Set;
import java.util.TreeSet;

/** "The public face": the class has just the members that the document lists, with their types and exceptions. */
public final class MembersTest {
    private static final Set<String> FACE = Set.of(
            "public MacroPress()",
            "public boolean MacroPress.type(long,int)",
            "public int MacroPress.run(int) throws java.lang.IllegalArgumentException",
            "public int MacroPress.ticks()",
            "public int MacroPress.size()",
            "public int MacroPress.out(int) throws java.lang.IndexOutOfBoundsException",
            "public int MacroPress.count(int) throws java.lang.IndexOutOfBoundsException");

    public static void main(String[] args) {
        theClass();
        members();
        classesInside();
        Check.end();
    }

    private static void theClass() {
        Class<?> face = MacroPress.class;
        Check.holds("it is public and final", "public final".equals(Modifier.toString(face.getModifiers())));
        Check.holds("it has no package", face.getPackageName().isEmpty());
        Check.holds("it extends nothing", face.getSuperclass() == Object.class);
        Check.due("it implements nothing", face.getInterfaces().length, 0);
    }

    private static void members() {
        Set<String> seen = new TreeSet<>();
        for (Constructor<?> constructor : MacroPress.class.getDeclaredConstructors()) {
            addIfSeen(constructor, constructor.toGenericString(), seen);
        }
        for (Method method : MacroPress.class.getDeclaredMethods()) {
            addIfSeen(method, method.toGenericString(), seen);
        }
        for (Field field : MacroPress.class.getDeclaredFields()) {
            addIfSeen(field, field.toGenericString(), seen);
        }
        for (String member : seen) {
            Check.holds("the face has no " + member, FACE.contains(member));
        }
        for (String member : FACE) {
            Check.holds("the face has " + member, seen.contains(member));
        }
    }

    private static void addIfSeen(Member member, String text, Set<String> seen) {
        if (!Modifier.isPrivate(member.getModifiers()) && !member.isSynthetic()) {
            seen.add(text);
        }
    }

    private static void classesInside() {
        for (Class<?> inside : MacroPress.class.getDeclaredClasses()) {
            int modifiers = inside.getModifiers();
            boolean isSeen = Modifier.isPublic(modifiers) || Modifier.isProtected(modifiers);
            Check.holds(inside.getName() + " is static and not public", Modifier.isStatic(modifiers) && !isSeen);
        }
    }
}
