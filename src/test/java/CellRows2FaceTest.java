import java.lang.reflect.Constructor;
import java.lang.reflect.Field;
import java.lang.reflect.Method;
import java.lang.reflect.Modifier;
import java.util.Arrays;
import java.util.TreeSet;

/** "The public face": every constructor and method with its types and what it throws, and nothing else to be seen. */
public final class CellRows2FaceTest extends Checks {

    private static final String[] FACE = {
        "int step(int, long, long, long) throws ArrayIndexOutOfBoundsException",
        "long charge(int)",
        "double share(int)",
        "long whole(int, int) throws ArithmeticException",
        "int contactor(boolean)",
        "int bleed(int)",
        "int limit(int, long)",
        "int weakest()",
        "int insulate(long)",
        "int stuck(int)",
        "int cycle(int, int)",
        "int cool()",
        "int fault(int)",
    };

    public static void main(String[] args) {
        sentence("The public face");
        int kind = CellRows2.class.getModifiers();
        due("the class", Modifier.toString(kind), "public final");
        due("what it extends", CellRows2.class.getSuperclass().getName(), "java.lang.Object");
        due("what it implements", CellRows2.class.getInterfaces().length, 0);
        constructors();
        methods();
        fields();
        privateNames();
        classesInside();
        end("the face is the document's");
    }

    private static void constructors() {
        Constructor<?>[] made = CellRows2.class.getDeclaredConstructors();
        due("how many constructors", made.length, 1);
        due("the constructor", Modifier.toString(made[0].getModifiers()) + " (" + names(made[0].getParameterTypes())
            + ")" + thrown(made[0].getExceptionTypes()), "public (int)");
    }

    private static void methods() {
        TreeSet<String> got = new TreeSet<>();
        for (Method m : CellRows2.class.getDeclaredMethods()) {
            if (Modifier.isPrivate(m.getModifiers()) || m.isSynthetic()) {
                continue;
            }
            String kept = Modifier.toString(m.getModifiers()).equals("public")
                ? "" : "(" + Modifier.toString(m.getModifiers()) + ") ";
            got.add(kept + m.getReturnType().getSimpleName() + " " + m.getName() + "(" + names(m.getParameterTypes())
                + ")" + thrown(m.getExceptionTypes()));
        }
        due("the methods", got.toString(), new TreeSet<>(Arrays.asList(FACE)).toString());
    }

    private static void fields() {
        for (Field f : CellRows2.class.getDeclaredFields()) {
            int kind = f.getModifiers();
            due("field " + f.getName() + " is private", Modifier.isPrivate(kind) ? 1 : 0, 1);
            due("field " + f.getName() + " is final or each object's own",
                Modifier.isFinal(kind) || !Modifier.isStatic(kind) ? 1 : 0, 1);
        }
    }

    private static void privateNames() {
        TreeSet<String> shown = new TreeSet<>();
        for (Method m : CellRows2.class.getDeclaredMethods()) {
            if (Modifier.isPublic(m.getModifiers())) {
                shown.add(m.getName());
            }
        }
        noPrivateOneNamed(shown, CellRows2.class);
        for (Class<?> inside : CellRows2.class.getDeclaredClasses()) {
            noPrivateOneNamed(shown, inside);
        }
    }

    private static void noPrivateOneNamed(TreeSet<String> shown, Class<?> where) {
        for (Method m : where.getDeclaredMethods()) {
            boolean isPrivate = Modifier.isPrivate(m.getModifiers());
            due("a private " + m.getName() + " of " + where.getSimpleName() + " beside a public one",
                isPrivate && shown.contains(m.getName()) ? 1 : 0, 0);
        }
    }

    private static void classesInside() {
        for (Class<?> inside : CellRows2.class.getDeclaredClasses()) {
            int kind = inside.getModifiers();
            due(inside.getSimpleName() + " is static", Modifier.isStatic(kind) ? 1 : 0, 1);
            due(inside.getSimpleName() + " is not shown",
                Modifier.isPublic(kind) || Modifier.isProtected(kind) ? 1 : 0, 0);
        }
    }

    private static String names(Class<?>[] kinds) {
        StringBuilder text = new StringBuilder();
        for (Class<?> kind : kinds) {
            text.append(text.length() == 0 ? "" : ", ").append(kind.getSimpleName());
        }
        return text.toString();
    }

    private static String thrown(Class<?>[] kinds) {
        return kinds.length == 0 ? "" : " throws " + names(kinds);
    }
}
