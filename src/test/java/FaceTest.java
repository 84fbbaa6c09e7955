import java.lang.reflect.Constructor;
import java.lang.reflect.Field;
import java.lang.reflect.Method;
import java.lang.reflect.Modifier;
import java.util.Arrays;
import java.util.Set;
import java.util.TreeSet;

/** The public face, and rule 1 of LANGUAGE.md: no other member that is not private. */
public final class FaceTest {
    private static final String[] FACE = {
        "int appendText(int) IllegalStateException",
        "int truncateText(int) IllegalArgumentException",
        "int load()",
        "int errorCode()",
        "int errorPosition()",
        "int addOwner(int) IllegalArgumentException IllegalStateException",
        "int set(int,int) IllegalArgumentException",
        "int count(int) IllegalArgumentException",
        "int owner(int,int) IndexOutOfBoundsException IllegalArgumentException",
        "double trust(int) IndexOutOfBoundsException",
        "int forgive(int) IndexOutOfBoundsException",
        "void draft(int,int,int) IndexOutOfBoundsException IllegalArgumentException",
        "int book(int,int,int,int) IndexOutOfBoundsException IllegalArgumentException"
            + " IllegalStateException",
        "int booking(int,int) IndexOutOfBoundsException IllegalArgumentException",
        "int waiter(int) IndexOutOfBoundsException",
        "int clean()",
        "int arrive(int) IndexOutOfBoundsException",
        "int leave(int) IndexOutOfBoundsException",
        "int extend(int,int) IndexOutOfBoundsException IllegalArgumentException",
        "int cancel(int) IndexOutOfBoundsException",
        "int evict(int) IndexOutOfBoundsException",
        "int swap(int,int) IndexOutOfBoundsException IllegalArgumentException",
        "int buy(int,int) IndexOutOfBoundsException",
        "int bargain()",
        "int pass(int) IllegalArgumentException IllegalStateException",
        "int gain(int,int) IndexOutOfBoundsException",
        "int best(int) IllegalArgumentException",
        "int holder(int,int) IndexOutOfBoundsException IllegalArgumentException",
        "int nextFree(int) IllegalArgumentException",
        "boolean mayWrite(int,int,int) IndexOutOfBoundsException IllegalArgumentException",
        "float usage(int) IllegalArgumentException",
        "int waitsFor(int,int) IndexOutOfBoundsException IllegalArgumentException",
        "int ahead(int,int) IllegalArgumentException",
        "int show(int) IllegalArgumentException",
        "int shown(int)",
        "void save(int) IllegalArgumentException",
        "void restore(int) IllegalArgumentException IllegalStateException",
    };

    public static void main(String[] args) throws Exception {
        Checks c = new Checks("FaceTest");
        c.due("modifiers of the class", SpanLodge.class.getModifiers(),
                Modifier.PUBLIC | Modifier.FINAL);
        c.due("NONE", SpanLodge.NONE, -1);
        c.due("methods", openMethods(), new TreeSet<>(Arrays.asList(FACE)));
        for (Field field : SpanLodge.class.getDeclaredFields()) {
            boolean isNone = field.getName().equals("NONE");
            c.due("field " + field.getName() + " is private", Modifier.isPrivate(field.getModifiers()),
                    !isNone);
            c.due("static field " + field.getName() + " is final",
                    !Modifier.isStatic(field.getModifiers()) || Modifier.isFinal(field.getModifiers()),
                    true);
        }
        Constructor<?>[] constructors = SpanLodge.class.getDeclaredConstructors();
        c.due("constructors", constructors.length, 1);
        c.due("constructor", constructors[0].toString(), "public SpanLodge()");
        for (Class<?> inside : SpanLodge.class.getDeclaredClasses()) {
            int modifiers = inside.getModifiers();
            c.due(inside.getName() + " is static and not public", Modifier.isStatic(modifiers)
                    && !Modifier.isPublic(modifiers) && !Modifier.isProtected(modifiers), true);
        }
        c.due("private methods with a public name", borrowedNames(), new TreeSet<String>());
        c.end();
    }

    private static Set<String> openMethods() {
        Set<String> open = new TreeSet<>();
        for (Method method : SpanLodge.class.getDeclaredMethods()) {
            if (!Modifier.isPrivate(method.getModifiers())) {
                StringBuilder s = new StringBuilder();
                s.append(method.getReturnType()).append(' ').append(method.getName()).append('(');
                for (int i = 0; i < method.getParameterCount(); i++) {
                    s.append(i == 0 ? "" : ",").append(method.getParameterTypes()[i]);
                }
                s.append(')');
                for (Class<?> thrown : method.getExceptionTypes()) {
                    s.append(' ').append(thrown.getSimpleName());
                }
                open.add(s.toString());
            }
        }
        return open;
    }

    private static Set<String> borrowedNames() {
        Set<String> names = new TreeSet<>();
        for (Method method : SpanLodge.class.getDeclaredMethods()) {
            if (!Modifier.isPrivate(method.getModifiers())) {
                names.add(method.getName());
            }
        }
        Set<String> borrowed = new TreeSet<>();
        for (Method method : SpanLodge.class.getDeclaredMethods()) {
            if (Modifier.isPrivate(method.getModifiers()) && names.contains(method.getName())) {
                borrowed.add(method.getName());
            }
        }
        return borrowed;
    }
}
