import java.lang.reflect.Constructor;
import java.lang.reflect.Field;
import java.lang.reflect.Method;
import java.lang.reflect.Modifier;
import java.util.Arrays;
import java.util.Set;
import java.util.TreeSet;
import java.util.stream.Collectors;

/** The public face is the document's, and there is nothing else to be seen. */
public final class FaceTest {
    private static final String[] FACE = {
        "int feed(int,int,int,int,int)", "int text(int)", "int fault()", "int where()",
        "int about(int)", "int cell(int,int)", "int speed(int)", "int wall(int,int)",
        "int wallOf(int,int,int)", "int mark(int,int)",
        "int height(int,int,int)", "int slopes(int,int)", "int drop(int,int)", "int catches(int)",
        "int faces(int)", "int rim(int)", "int highest(int)", "int ranked(int)", "int points(int,int)",
        "int pieces(int,int)", "long area(int,int,int)", "long piece(int,int,int,int)",
        "int event(int,int)", "int top(int)", "int higher(int,int)", "long under(int)",
        "long would(int,int,int)",
        "int set(int,int,boolean)", "int runs(int,int)", "boolean turn(int)", "int grow()", "int undo()",
        "int row(int)", "int bytes()", "int trouble()"};

    public static void main(String[] args) {
        Class<?> face = EaveRoofs.class;
        Check.yes("public final", Modifier.isPublic(face.getModifiers()) && Modifier.isFinal(face.getModifiers()));
        Set<String> seen = new TreeSet<>();
        Set<String> names = new TreeSet<>();
        for (Method method : face.getDeclaredMethods()) {
            if (!Modifier.isPrivate(method.getModifiers())) {
                Check.yes("public: " + method, Modifier.isPublic(method.getModifiers()));
                Check.yes("of objects: " + method, !Modifier.isStatic(method.getModifiers()));
                seen.add(told(method));
                names.add(method.getName());
            }
        }
        Set<String> due = new TreeSet<>(Arrays.asList(FACE));
        Check.yes("methods " + seen, seen.equals(due));
        for (Constructor<?> constructor : face.getDeclaredConstructors()) {
            Check.yes("constructor", Modifier.isPublic(constructor.getModifiers())
                    && constructor.getParameterCount() == 0);
        }
        for (Field field : face.getDeclaredFields()) {
            boolean constant = field.getName().equals("NONE");
            Check.yes("field " + field, Modifier.isPrivate(field.getModifiers()) != constant);
        }
        inner(face, names);
        Check.end();
    }

    private static void inner(Class<?> face, Set<String> names) {
        Check.yes("classes", face.getDeclaredClasses().length <= 11);
        for (Class<?> inner : face.getDeclaredClasses()) {
            Check.yes("static: " + inner, Modifier.isStatic(inner.getModifiers())
                    && !Modifier.isPublic(inner.getModifiers()));
            Check.yes("fields: " + inner, countOwnFields(inner) <= 20);
            for (Method method : inner.getDeclaredMethods()) {
                Check.yes("another name: " + method, !names.contains(method.getName()));
                Check.yes("parameters: " + method, method.getParameterCount() <= 7);
            }
        }
        for (Method method : face.getDeclaredMethods()) {
            Check.yes("another name: " + method, !Modifier.isPrivate(method.getModifiers())
                    || !names.contains(method.getName()));
        }
    }

    private static long countOwnFields(Class<?> inner) {
        return Arrays.stream(inner.getDeclaredFields()).filter(f -> !Modifier.isStatic(f.getModifiers())).count();
    }

    private static String told(Method method) {
        return method.getReturnType() + " " + method.getName() + "("
                + Arrays.stream(method.getParameterTypes()).map(Class::getName).collect(Collectors.joining(",")) + ")";
    }
}
