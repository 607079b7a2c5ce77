import java.lang.reflect.Constructor;
import java.lang.reflect.Field;
import java.lang.reflect.Method;
import java.lang.reflect.Modifier;
import java.util.ArrayList;
import java.util.HashSet;
import java.util.List;
import java.util.Set;
import java.util.TreeSet;

/** The public face: nothing but what the document lists can be seen from outside. */
public final class FaceTest {
    private static final String INDEX = "IndexOutOfBoundsException";
    private static final String ARGUMENT = "IllegalArgumentException";
    private static final String STATE = "IllegalStateException";
    private static final String ELEMENT = "NoSuchElementException";
    private static final String UNSUPPORTED = "UnsupportedOperationException";
    private static final List<String> METHODS = List.of(
            "int clear()",
            "boolean action(int,int,int,int) " + INDEX + " " + ARGUMENT,
            "int effect(int,int,boolean,int,int) " + INDEX + " " + ELEMENT + " " + ARGUMENT + " " + STATE,
            "int clause(int,int) " + ARGUMENT + " " + STATE,
            "int goal(int,int) " + ARGUMENT,
            "int start()",
            "int behind(int,int) " + INDEX + " " + ELEMENT + " " + ARGUMENT + " " + UNSUPPORTED,
            "int least(int,int) " + ARGUMENT + " " + ELEMENT,
            "int plan(int) " + ARGUMENT + " " + STATE + " " + ELEMENT,
            "int nodes()",
            "int node(int,int) " + INDEX,
            "int edit(int,int) " + INDEX + " " + ELEMENT + " " + UNSUPPORTED,
            "boolean right() " + STATE,
            "boolean hide(int) " + ARGUMENT,
            "boolean execute() " + STATE,
            "int made()",
            "int trace(int) " + INDEX,
            "int twins() " + ELEMENT);
    private static final Checks checks = new Checks();

    public static void main(String[] args) {
        Class<HiddenFacts> face = HiddenFacts.class;
        checks.due("the class is public and final", face.getModifiers(), Modifier.PUBLIC | Modifier.FINAL);
        checks.due("its superclass", face.getSuperclass().getName(), "java.lang.Object");
        checks.due("its interfaces", face.getInterfaces().length, 0);
        methods(face);
        fields(face);
        for (Constructor<?> made : face.getDeclaredConstructors()) {
            checks.due("the constructor", made.toString(), "public HiddenFacts()");
        }
        for (Class<?> inside : face.getDeclaredClasses()) {
            int seen = inside.getModifiers() & (Modifier.PUBLIC | Modifier.PROTECTED);
            checks.due("outside sees " + inside.getName(), seen, 0);
            checks.due(inside.getName() + " is static", Modifier.isStatic(inside.getModifiers()), true);
        }
        checks.end();
    }

    private static void methods(Class<?> face) {
        Set<String> seen = new TreeSet<>();
        Set<String> names = new HashSet<>();
        List<String> hidden = new ArrayList<>();
        for (Method method : face.getDeclaredMethods()) {
            if (Modifier.isPrivate(method.getModifiers())) {
                hidden.add(method.getName());
            } else {
                seen.add(written(method));
                names.add(method.getName());
            }
        }
        checks.due("the methods", seen.toString(), new TreeSet<>(METHODS).toString());
        for (String name : hidden) {
            checks.due("a private method is called " + name, names.contains(name), false);
        }
    }

    private static String written(Method method) {
        List<String> types = new ArrayList<>();
        for (Class<?> type : method.getParameterTypes()) {
            types.add(type.getSimpleName());
        }
        StringBuilder text = new StringBuilder();
        if (method.getModifiers() != Modifier.PUBLIC) {
            text.append(Modifier.toString(method.getModifiers())).append(' ');
        }
        text.append(method.getReturnType().getSimpleName()).append(' ').append(method.getName());
        text.append('(').append(String.join(",", types)).append(')');
        for (Class<?> thrown : method.getExceptionTypes()) {
            text.append(' ').append(thrown.getSimpleName());
        }
        return text.toString();
    }

    private static void fields(Class<?> face) {
        for (Field field : face.getDeclaredFields()) {
            boolean ours = field.getName().equals("NONE");
            boolean seen = !Modifier.isPrivate(field.getModifiers());
            checks.due("outside sees the field " + field.getName(), seen, ours);
            if (ours) {
                checks.due("NONE", field.toString(), "public static final int HiddenFacts.NONE");
            }
        }
    }
}
