import java.lang.reflect.Constructor;
import java.lang.reflect.Field;
import java.lang.reflect.Method;
import java.lang.reflect.Modifier;
import java.util.Arrays;
import java.util.TreeSet;

/** The public face: what is seen of the class from outside, and nothing more. */
public final class FaceTest {
    private static final String S = "IllegalStateException";
    private static final String A = "IllegalArgumentException";
    private static final String X = "IndexOutOfBoundsException";

    private static final String[] METHODS = {
        "int type(long,int) " + A + "," + S,
        "int read() ",
        "int place() ",
        "int positions() " + S,
        "boolean empty() " + S,
        "boolean is(int,int) " + S + "," + X + "," + A,
        "boolean follows(int,int) " + S + "," + X,
        "boolean has(int,int) " + S + "," + X,
        "int feed(long,int) " + A + "," + S,
        "int clear() ",
        "boolean whole() " + S,
        "int finds() " + S,
        "int find(int,boolean) " + S + "," + X,
        "int states() " + S,
        "int next(int,int) " + S + "," + X,
        "boolean good(int) " + S + "," + X,
        "int classes() " + S,
        "void keep() " + S,
        "int differ() " + S,
        "int letter(int) " + X,
    };

    private static final Check CHECK = new Check();

    public static void main(String[] args) throws Exception {
        Class<?> face = PatternHouse.class;
        CHECK.due("modifiers", Modifier.toString(face.getModifiers()), "public final");
        CHECK.due("methods", visibleMethods(face), new TreeSet<>(Arrays.asList(METHODS)));
        CHECK.due("NONE", PatternHouse.NONE, -1);
        CHECK.due("NONE is", Modifier.toString(face.getDeclaredField("NONE").getModifiers()), "public static final");
        noOtherMemberIsSeen(face);
        noPrivateMethodHasAPublicName(face);
        classesInside(face);
        CHECK.end();
    }

    private static void noOtherMemberIsSeen(Class<?> face) {
        for (Method method : face.getDeclaredMethods()) {
            int modifiers = method.getModifiers();
            boolean isFace = Modifier.isPublic(modifiers) && !Modifier.isStatic(modifiers);
            CHECK.due(method + " is of the face or private",
                    isFace || Modifier.isPrivate(modifiers) || method.isSynthetic(), true);
        }
        for (Field field : face.getDeclaredFields()) {
            int modifiers = field.getModifiers();
            boolean isNone = field.getName().equals("NONE");
            CHECK.due(field + " is NONE or private",
                    isNone || Modifier.isPrivate(modifiers) || field.isSynthetic(), true);
            CHECK.due(field + " is final, if static", !Modifier.isStatic(modifiers) || Modifier.isFinal(modifiers), true);
        }
        for (Constructor<?> constructor : face.getDeclaredConstructors()) {
            boolean isFace = constructor.toString().equals("public PatternHouse()");
            CHECK.due(constructor + " is of the face or private",
                    isFace || Modifier.isPrivate(constructor.getModifiers()), true);
        }
        CHECK.due("public constructors", face.getConstructors().length, 1);
    }

    private static void noPrivateMethodHasAPublicName(Class<?> face) {
        TreeSet<String> seen = new TreeSet<>();
        for (Method method : face.getMethods()) {
            seen.add(method.getName());
        }
        for (Method method : face.getDeclaredMethods()) {
            boolean isHidden = Modifier.isPrivate(method.getModifiers()) && !method.isSynthetic();
            CHECK.due(method + " has a public name", isHidden && seen.contains(method.getName()), false);
        }
    }

    private static void classesInside(Class<?> face) {
        for (Class<?> inside : face.getDeclaredClasses()) {
            int modifiers = inside.getModifiers();
            CHECK.due(inside + " is seen outside", Modifier.isPublic(modifiers) || Modifier.isProtected(modifiers), false);
            CHECK.due(inside + " is static", Modifier.isStatic(modifiers), true);
        }
    }

    private static TreeSet<String> visibleMethods(Class<?> face) {
        TreeSet<String> all = new TreeSet<>();
        for (Method method : face.getDeclaredMethods()) {
            if (!Modifier.isPrivate(method.getModifiers()) && !method.isSynthetic()) {
                all.add(method.getReturnType().getSimpleName() + " " + method.getName()
                        + "(" + names(method.getParameterTypes()) + ") " + names(method.getExceptionTypes()));
            }
        }
        return all;
    }

    private static String names(Class<?>[] types) {
        StringBuilder all = new StringBuilder();
        for (Class<?> type : types) {
            all.append(all.length() == 0 ? "" : ",").append(type.getSimpleName());
        }
        return all.toString();
    }
}
