import java.lang.reflect.Constructor;
import java.lang.reflect.Field;
import java.lang.reflect.Method;
import java.lang.reflect.Modifier;
import java.util.Arrays;
import java.util.TreeSet;

/** The public face: just the constants, the constructor and the methods of the document. */
public final class FaceTest {
    private static final String[] METHODS = {
        "int feed(int,int,int,int,int)", "boolean end(int)", "int fault()", "int code()", "int marks(int)",
        "int group(int)", "int hand(int,int,int,int,int)", "int line(int,int,int,int)", "boolean rain(int)",
        "int bite(int)", "int length(int)", "boolean cut(int)", "int tape(int)", "int readings(int,int)",
        "int nearest(int,int,int)", "int suspects(int)", "int likelier(int,int,int)", "int key(int,int,int)",
        "int mended(int,int,int)", "int message(int,int,int)", "int route(int,int,int)", "int sent(int,int,int)",
        "int tap(int,int)", "boolean clock(int,int,int)", "int event(int,int)", "int fact(int,int,int)",
        "int undo()", "int apart(int,int,int)", "int first(int,int)", "int count(int)"};

    public static void main(String[] args) {
        Due due = new Due("FaceTest");
        due.is("NONE", KeyFists.NONE, -1);
        due.is("VOID", KeyFists.VOID, Integer.MIN_VALUE);
        due.is("class", Modifier.toString(KeyFists.class.getModifiers()), "public final");
        due.is("package", KeyFists.class.getPackageName(), "");

        TreeSet<String> names = new TreeSet<>();
        TreeSet<String> open = new TreeSet<>();
        for (Method method : KeyFists.class.getDeclaredMethods()) {
            if (!Modifier.isPrivate(method.getModifiers())) {
                open.add(told(method));
                names.add(method.getName());
                due.is(method.getName() + " modifiers", Modifier.toString(method.getModifiers()), "public");
            }
        }
        due.is("methods", open.toString(), new TreeSet<>(Arrays.asList(METHODS)).toString());

        StringBuilder fields = new StringBuilder();
        for (Field field : KeyFists.class.getDeclaredFields()) {
            if (!Modifier.isPrivate(field.getModifiers())) {
                fields.append(field.getName()).append(' ').append(Modifier.toString(field.getModifiers())).append(';');
            }
        }
        due.is("fields", fields.toString(), "NONE public static final;VOID public static final;");

        Constructor<?>[] constructors = KeyFists.class.getDeclaredConstructors();
        due.is("constructors", constructors.length, 1);
        due.is("its parameters", constructors[0].getParameterCount(), 0);
        due.is("its modifiers", Modifier.toString(constructors[0].getModifiers()), "public");

        lookInside(due, KeyFists.class, names);
        due.end();
    }

    private static void lookInside(Due due, Class<?> outer, TreeSet<String> names) {
        for (Method method : outer.getDeclaredMethods()) {
            boolean face = Modifier.isPublic(method.getModifiers()) && outer == KeyFists.class;
            due.is(outer + " " + method.getName() + " bears a public name", !face && names.contains(method.getName()),
                false);
        }
        for (Field field : outer.getDeclaredFields()) {
            int modifiers = field.getModifiers();
            due.is(outer + " " + field.getName() + " is state of the class",
                Modifier.isStatic(modifiers) && !Modifier.isFinal(modifiers), false);
        }
        for (Class<?> inner : outer.getDeclaredClasses()) {
            due.is(inner + " is static", Modifier.isStatic(inner.getModifiers()), true);
            due.is(inner + " is public", Modifier.isPublic(inner.getModifiers()), false);
            lookInside(due, inner, names);
        }
    }

    private static String told(Method method) {
        StringBuilder parameters = new StringBuilder();
        for (Class<?> parameter : method.getParameterTypes()) {
            parameters.append(parameters.length() == 0 ? "" : ",").append(parameter.getName());
        }
        return method.getReturnType().getName() + " " + method.getName() + "(" + parameters + ")";
    }
}
