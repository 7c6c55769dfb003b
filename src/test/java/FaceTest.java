import java.lang.reflect.Constructor;
import java.lang.reflect.Field;
import java.lang.reflect.Method;
import java.lang.reflect.Modifier;
import java.util.Arrays;
import java.util.TreeSet;

/** The public face: what is seen of the class from outside, and nothing more. */
public final class FaceTest {
    private static final String S = "IllegalStateException";
    private static final String A = "IllegalArgumentException";
    private static final String X = "IndexOutOfBoundsException";

    private static final String[] METHODS = {
        "int type(long,int) " + A + "," + S,
        "int read() ",
        "int place() ",
        "int positions() " + S,
        "boolean empty() " + S,
        "boolean is(int,int) " + S + "," + X + "," + A,
        "boolean follows(int,int) " + S + "," + X,
        "boolean has(int,int) " + S + "," + X,
        "int feed(long,int) " + A + "," + S,
        "int clear() ",
        "boolean whole() " + S,
        "int finds() " + S,
        "int find(int,boolean) " + S + "," + X,
        "int states() " + S,
        "int next(int,int) " + S + "," + X,
        "boolean good(int) " + S + "," + X,
        "int classes() " + S,
        "void keep() " + S,
        "int differ() " + S,
        "int letter(int) " + X,
    };

    public static void main(String[] args) throws Exception {
        Check check = new Check();
        Class<?> face = PatternHouse.class;
        check.due("modifiers", Modifier.toString(face.getModifiers()), "public final");
        check.due("NONE", PatternHouse.NONE, -1);
        check.due("methods", visibleMethods(face), new TreeSet<>(Arrays.asList(METHODS)));
        for (Method method : face.getDeclaredMethods()) {
            boolean isPublic = Modifier.isPublic(method.getModifiers());
            check.due(method + " is public or private", isPublic || Modifier.isPrivate(method.getModifiers()), true);
        }
        for (Field field : face.getDeclaredFields()) {
            boolean isNone = field.getName().equals("NONE");
            check.due(field + " is private", Modifier.isPrivate(field.getModifiers()), !isNone);
            check.due(field + " is final, if static",
                    !Modifier.isStatic(field.getModifiers()) || Modifier.isFinal(field.getModifiers()), true);
        }
        check.due("NONE is", Modifier.toString(face.getDeclaredField("NONE").getModifiers()), "public static final");
        Constructor<?>[] constructors = face.getDeclaredConstructors();
        check.due("constructors", constructors.length, 1);
        check.due("constructor", constructors[0].toString(), "public PatternHouse()");
        for (Class<?> inside : face.getDeclaredClasses()) {
            int modifiers = inside.getModifiers();
            check.due(inside + " is private", Modifier.isPrivate(modifiers), true);
            check.due(inside + " is static", Modifier.isStatic(modifiers), true);
        }
        check.end();
    }

    private static TreeSet<String> visibleMethods(Class<?> face) {
        TreeSet<String> all = new TreeSet<>();
        for (Method method : face.getDeclaredMethods()) {
            if (!Modifier.isPrivate(method.getModifiers())) {
                all.add(method.getReturnType().getSimpleName() + " " + method.getName()
                        + "(" + names(method.getParameterTypes()) + ") " + names(method.getExceptionTypes()));
            }
        }
        return all;
    }

    private static String names(Class<?>[] types) {
        StringBuilder all = new StringBuilder();
        for (Class<?> type : types) {
            all.append(all.length() == 0 ? "" : ",").append(type.getSimpleName());
        }
        return all.toString();
    }
}
