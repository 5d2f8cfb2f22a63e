import java.lang.reflect.Constructor;
import java.lang.reflect.Field;
import java.lang.reflect.Method;
import java.lang.reflect.Modifier;
import java.util.Arrays;
import java.util.TreeSet;

/** The class's face is that of the document, with nothing beside it (rule 1 of LANGUAGE.md). */
public final class FaceTest {
    private static final String[] FACE = {
        "int addKind(int) IllegalArgumentException IllegalStateException",
        "int addStep(int,int,int,int) IndexOutOfBoundsException IllegalArgumentException IllegalStateException",
        "int put(int,int,int) IndexOutOfBoundsException IllegalArgumentException IllegalStateException",
        "int at(int) IndexOutOfBoundsException",
        "int state(int) IndexOutOfBoundsException",
        "int reason(int,int) IndexOutOfBoundsException",
        "int play(int,int) IndexOutOfBoundsException IllegalStateException",
        "int feed(int,int,int,int) IllegalArgumentException IllegalStateException",
        "int empty()",
        "int read()",
        "int found(int) IndexOutOfBoundsException",
        "int write(int,int) IndexOutOfBoundsException IllegalStateException",
        "int byteAt(int) IndexOutOfBoundsException",
        "int node(int,int) IndexOutOfBoundsException",
        "int continuation(int,int) IndexOutOfBoundsException",
        "int goTo(int) IndexOutOfBoundsException",
        "int promote(int) IndexOutOfBoundsException",
        "int writeGame() IllegalStateException",
        "int readGame()",
        "int clear()",
        "double branching()",
        "long digest()",
    };

    public static void main(String[] args) {
        Class<?> face = BoardNotation.class;
        Due.isText("the class is", Modifier.toString(face.getModifiers()), "public final");
        constructors(face);
        methods(face);
        for (Field field : face.getDeclaredFields()) {
            mustBe(Modifier.isPrivate(field.getModifiers()), "field " + field.getName() + " is not private");
            boolean isStatic = Modifier.isStatic(field.getModifiers());
            mustBe(!isStatic || Modifier.isFinal(field.getModifiers()), "static " + field.getName() + " is not final");
        }
        for (Class<?> inside : face.getDeclaredClasses()) {
            mustBe(Modifier.isStatic(inside.getModifiers()), "class " + inside.getName() + " is not static");
            mustBe(!Modifier.isPublic(inside.getModifiers()) && !Modifier.isProtected(inside.getModifiers()),
                    "class " + inside.getName() + " is seen from outside");
            mustBe(inside.getDeclaredFields().length <= 40, "class " + inside.getName() + " has many fields");
        }
        Due.end();
    }

    private static void mustBe(boolean holds, String otherwise) {
        if (!holds) {
            Due.tell(otherwise);
        }
    }

    private static void constructors(Class<?> face) {
        Constructor<?>[] all = face.getDeclaredConstructors();
        Due.is("constructors", all.length, 1);
        Due.is("its parameters", all[0].getParameterCount(), 0);
        mustBe(Modifier.isPublic(all[0].getModifiers()), "the constructor is not public");
    }

    private static void methods(Class<?> face) {
        TreeSet<String> due = new TreeSet<>(Arrays.asList(FACE));
        TreeSet<String> names = new TreeSet<>();
        TreeSet<String> others = new TreeSet<>();
        for (Method method : face.getDeclaredMethods()) {
            if (Modifier.isPublic(method.getModifiers())) {
                names.add(method.getName());
                mustBe(due.remove(told(method)), "not in the face: " + told(method));
            } else {
                others.add(method.getName());
                mustBe(Modifier.isPrivate(method.getModifiers()), "not private: " + method.getName());
            }
        }
        mustBe(due.isEmpty(), "missing: " + due);
        others.retainAll(names);
        mustBe(others.isEmpty(), "private methods with a public one's name: " + others);
    }

    private static String told(Method method) {
        StringBuilder text = new StringBuilder(method.getReturnType().getName());
        text.append(' ').append(method.getName()).append('(');
        for (Class<?> parameter : method.getParameterTypes()) {
            text.append(text.charAt(text.length() - 1) == '(' ? "" : ",").append(parameter.getName());
        }
        text.append(')');
        for (Class<?> thrown : method.getExceptionTypes()) {
            text.append(' ').append(thrown.getSimpleName());
        }
        return text.toString();
    }
}
