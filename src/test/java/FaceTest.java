import java.lang.reflect.Constructor;
import java.lang.reflect.Field;
import java.lang.reflect.Method;
import java.lang.reflect.Modifier;
import java.util.Arrays;
import java.util.Set;
import java.util.TreeSet;

/** The public face is the document's, and there is nothing beside it. */
public final class FaceTest {
    private static final String FACE = "int feed(int,int,int,int,int); int end(int); int out(int); "
            + "int compile() IllegalArgumentException; int fault(int); int tell(); int size(int,int); int order(int,int,int,int); "
            + "int mark(int,int,int); int give(int); int file(int); int effective(int,int); int whence(int,int,int); "
            + "int ask(int,int,int,int); int markOf(int,int); int rounds(); int flow(int); int error(int,int); int way(int); "
            + "int step(int); int state(int,int,int); int find(int); boolean plain(int); int weave(); int code(int,boolean); "
            + "boolean argument(int,int); int input(int); void begin(int,boolean) IllegalStateException NoSuchElementException; "
            + "int go(int) IllegalArgumentException IllegalStateException; int run(int); int truth(int); int wire(); int wired(int)";

    public static void main(String[] args) {
        Due d = new Due("the face");
        Class<?> face = MarkHouse.class;
        d.is("public and final", Modifier.isPublic(face.getModifiers()) && Modifier.isFinal(face.getModifiers()), true);
        Set<String> got = new TreeSet<>();
        Set<String> hidden = new TreeSet<>();
        for (Method method : face.getDeclaredMethods()) {
            if (Modifier.isPublic(method.getModifiers())) {
                got.add(told(method));
            } else {
                d.is(method.getName() + " is private", Modifier.isPrivate(method.getModifiers()), true);
                hidden.add(method.getName());
            }
        }
        d.is("methods", got.toString(), new TreeSet<>(Arrays.asList(FACE.split("; "))).toString());
        for (Method method : face.getDeclaredMethods()) {
            boolean isPublic = Modifier.isPublic(method.getModifiers());
            d.is(method.getName() + " is not private too", isPublic && hidden.contains(method.getName()), false);
        }
        for (Field field : face.getDeclaredFields()) {
            boolean isPublic = Modifier.isPublic(field.getModifiers());
            d.is(field.getName(), isPublic ? field.getName().equals("NONE") : Modifier.isPrivate(field.getModifiers()), true);
        }
        for (Constructor<?> constructor : face.getDeclaredConstructors()) {
            d.is("constructor", Modifier.isPublic(constructor.getModifiers()) && constructor.getParameterCount() == 0, true);
        }
        Due.close();
    }

    private static String told(Method method) {
        StringBuilder text = new StringBuilder(method.getReturnType().getSimpleName() + " " + method.getName() + "(");
        for (int k = 0; k < method.getParameterCount(); k++) {
            text.append(k == 0 ? "" : ",").append(method.getParameterTypes()[k].getSimpleName());
        }
        text.append(")");
        for (Class<?> thrown : method.getExceptionTypes()) {
            text.append(" ").append(thrown.getSimpleName());
        }
        return text.toString();
    }
}
