import java.lang.reflect.Constructor;
import java.lang.reflect.Field;
import java.lang.reflect.Method;
import java.lang.reflect.Modifier;
import java.util.ArrayList;
import java.util.Arrays;
import java.util.HashSet;
import java.util.List;
import java.util.Set;
import java.util.TreeSet;

/** The public face is the document's, row by row, and nothing beside it can be seen from outside. */
final class FaceTest {
    private static final String FACE = String.join("\n",
            "int feed(int,int,int,int,int)",
            "boolean end(int)",
            "int court() IllegalArgumentException UnsupportedOperationException",
            "int law() IllegalArgumentException",
            "int fault()",
            "int prop(int,int) IndexOutOfBoundsException NoSuchElementException",
            "int slot(int) IndexOutOfBoundsException",
            "int accused(int,int) IndexOutOfBoundsException NoSuchElementException",
            "int fright(int,int,int,boolean) IndexOutOfBoundsException IllegalArgumentException",
            "int send(int) IndexOutOfBoundsException IllegalStateException",
            "void nail(int,int) IndexOutOfBoundsException IllegalStateException",
            "int down(int) IndexOutOfBoundsException IllegalStateException",
            "int mend(int) IndexOutOfBoundsException",
            "void recall(int) IndexOutOfBoundsException IllegalStateException",
            "int inside(int) IndexOutOfBoundsException IllegalStateException",
            "int calm(int) IllegalArgumentException",
            "int mornings(int) IllegalArgumentException",
            "int straight(int) IndexOutOfBoundsException",
            "int tense(int,int) IndexOutOfBoundsException",
            "int ways(int) IndexOutOfBoundsException",
            "int at(int,int) IndexOutOfBoundsException",
            "int odds(int) IndexOutOfBoundsException",
            "int gap()",
            "int errors(boolean)",
            "int swap()",
            "int next()",
            "int found(int,boolean) IllegalArgumentException",
            "int ask(int) IllegalArgumentException",
            "int car(int,int) IndexOutOfBoundsException IllegalArgumentException",
            "int corners(int) IndexOutOfBoundsException",
            "int cover()",
            "int leave()",
            "int bravest()",
            "int alike()",
            "int usher(int) IndexOutOfBoundsException",
            "int lasts(int,int) IndexOutOfBoundsException",
            "int all(boolean)",
            "int share(int,int) IndexOutOfBoundsException",
            "int loudest()",
            "int trial(int) IllegalArgumentException",
            "int span(int,boolean) IllegalArgumentException",
            "int led(int,boolean) IndexOutOfBoundsException",
            "int log(int,int) NoSuchElementException",
            "int seed(int)",
            "boolean undo()",
            "void image()",
            "boolean back()",
            "int count(int)");

    public static void main(String[] args) {
        Class<?> c = GhostAssize.class;
        Check.same("NONE", GhostAssize.NONE, -1);
        Check.same("public and final", Modifier.isPublic(c.getModifiers()) && Modifier.isFinal(c.getModifiers()), true);
        Set<String> due = new TreeSet<>(Arrays.asList(FACE.split("\n")));
        Set<String> got = new TreeSet<>();
        Set<String> publicNames = new HashSet<>();
        List<String> privateNames = new ArrayList<>();
        for (Method m : c.getDeclaredMethods()) {
            if (Modifier.isPrivate(m.getModifiers())) {
                privateNames.add(m.getName());
            } else {
                Check.same(m + " is public and no static", m.getModifiers(), Modifier.PUBLIC);
                publicNames.add(m.getName());
                got.add(row(m));
            }
        }
        for (String row : due) {
            Check.same("there is " + row, got.contains(row), true);
        }
        for (String row : got) {
            Check.same("the document has " + row, due.contains(row), true);
        }
        for (String name : privateNames) {
            Check.same("no private " + name, publicNames.contains(name), false);
        }
        for (Field f : c.getDeclaredFields()) {
            boolean isNone = f.getName().equals("NONE") && Modifier.isPublic(f.getModifiers());
            Check.same(f + " is private", isNone || Modifier.isPrivate(f.getModifiers()), true);
        }
        Constructor<?>[] made = c.getDeclaredConstructors();
        Check.same("constructors", made.length, 1);
        Check.same("it takes nothing", made[0].getParameterCount(), 0);
        for (Class<?> inside : c.getDeclaredClasses()) {
            int how = inside.getModifiers();
            Check.same(inside + " is seen", Modifier.isPublic(how) || Modifier.isProtected(how), false);
            Check.same(inside + " is static", Modifier.isStatic(how), true);
        }
        Check.close();
    }

    private static String row(Method m) {
        StringBuilder s = new StringBuilder(m.getReturnType().getName()).append(' ').append(m.getName()).append('(');
        for (int i = 0; i < m.getParameterCount(); i++) {
            s.append(i > 0 ? "," : "").append(m.getParameterTypes()[i].getName());
        }
        s.append(')');
        for (Class<?> e : m.getExceptionTypes()) {
            s.append(' ').append(e.getSimpleName());
        }
        return s.toString();
    }
}
