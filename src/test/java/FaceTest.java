import java.lang.reflect.Constructor;
import java.lang.reflect.Executable;
import java.lang.reflect.Field;
import java.lang.reflect.Method;
import java.lang.reflect.Modifier;
import java.util.Arrays;
import java.util.Set;
import java.util.TreeSet;

/** The public face is the document's, and no other member of the class is to be seen. */
public final class FaceTest {
    private static final String[] FACE = {
        "int name()", "int both(int, int) !", "int some(int, int) !", "int below(int, int) !",
        "int equal(int, int) !", "int roleBelow(int, int) !", "int chain(int, int, int) !",
        "boolean retract(int)", "boolean isBelow(int, int) !", "int supers(int) !", "int sup(int, int) !",
        "boolean direct(int, int) !", "int twin(int) !", "int common(int, int, int) !",
        "int why(int, int) !", "int reason(int)", "boolean has(int, int, int) !", "int count(int)",
    };

    public static void main(String[] args) throws ReflectiveOperationException {
        Checks checks = new Checks("FaceTest");
        Class<?> face = TermServer.class;
        checks.due("public and final", face.getModifiers(), Modifier.PUBLIC | Modifier.FINAL);
        methods(checks, face);
        fields(checks, face);
        Constructor<?>[] made = face.getDeclaredConstructors();
        checks.due("constructors", made.length, 1);
        checks.due("public constructor", Modifier.isPublic(made[0].getModifiers()), true);
        checks.due("constructor without parameters", made[0].getParameterCount(), 0);
        for (Class<?> inside : face.getDeclaredClasses()) {
            int modifiers = inside.getModifiers();
            checks.due(inside + " static", Modifier.isStatic(modifiers), true);
            checks.due(inside + " hidden", Modifier.isPublic(modifiers) || Modifier.isProtected(modifiers), false);
        }
        checks.end();
    }

    private static void methods(Checks checks, Class<?> face) {
        Set<String> due = new TreeSet<>(Arrays.asList(FACE));
        Set<String> names = new TreeSet<>();
        for (Method method : face.getDeclaredMethods()) {
            if (Modifier.isPublic(method.getModifiers())) {
                checks.due("in the document: " + text(method), due.remove(text(method)), true);
                checks.due(method + " static", Modifier.isStatic(method.getModifiers()), false);
                names.add(method.getName());
            }
        }
        checks.due("not there: " + due, due.size(), 0);
        hidden(checks, face, names);
        for (Class<?> inside : face.getDeclaredClasses()) {
            hidden(checks, inside, names);
        }
    }

    private static void hidden(Checks checks, Class<?> owner, Set<String> names) {
        for (Method method : owner.getDeclaredMethods()) {
            int modifiers = method.getModifiers();
            if (owner == TermServer.class && !Modifier.isPublic(modifiers)) {
                checks.due(method + " private", Modifier.isPrivate(modifiers), true);
            }
            if (!Modifier.isPublic(modifiers)) {
                checks.due(method + " has a public name", names.contains(method.getName()), false);
            }
            checks.due(method + " has over seven parameters", method.getParameterCount() > 7, false);
        }
    }

    private static void fields(Checks checks, Class<?> face) throws ReflectiveOperationException {
        for (Field field : face.getDeclaredFields()) {
            int modifiers = field.getModifiers();
            boolean none = field.getName().equals("NONE");
            checks.due(field + " public", Modifier.isPublic(modifiers), none);
            checks.due(field + " private", Modifier.isPrivate(modifiers), !none);
        }
        Field none = face.getDeclaredField("NONE");
        checks.due("NONE is a static final int", none.getType() == int.class
                && none.getModifiers() == (Modifier.PUBLIC | Modifier.STATIC | Modifier.FINAL), true);
        checks.due("NONE", none.getInt(null), -1);
    }

    private static String text(Executable member) {
        StringBuilder text = new StringBuilder();
        text.append(((Method) member).getReturnType().getName()).append(' ').append(member.getName()).append('(');
        Class<?>[] parameters = member.getParameterTypes();
        for (int i = 0; i < parameters.length; i++) {
            text.append(i == 0 ? "" : ", ").append(parameters[i].getName());
        }
        text.append(')');
        for (Class<?> thrown : member.getExceptionTypes()) {
            text.append(thrown == IndexOutOfBoundsException.class ? " !" : " " + thrown.getName());
        }
        return text.toString();
    }
}
