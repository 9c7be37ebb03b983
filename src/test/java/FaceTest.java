import java.lang.reflect.Constructor;
import java.lang.reflect.Field;
import java.lang.reflect.Member;
import java.lang.reflect.Method;
import java.lang.reflect.Modifier;
import java.util.Arrays;
import java.util.Set;
import java.util.TreeSet;

/** The class shows what the document's face shows, and nothing more. */
public final class FaceTest {
    private static final String[] FACE = {
        "int NONE",
        "TubeShop()",
        "void anew()",
        "int stroke(int, int, int, int)",
        "boolean price(int, int)",
        "boolean longest(int)",
        "int run(int, int)",
        "int step(int, int)",
        "int split()",
        "int part(int, int) throws IndexOutOfBoundsException, NoSuchElementException",
        "int feed(int, int)",
        "int dead(int)",
        "int look(int, int) throws IndexOutOfBoundsException, NoSuchElementException",
        "int count(int)",
    };

    private static int wrong = 0;

    public static void main(String[] args) {
        Set<String> due = new TreeSet<>(Arrays.asList(FACE));
        Set<String> got = new TreeSet<>();
        for (Field field : TubeShop.class.getDeclaredFields()) {
            if (isSeen(field)) {
                got.add(field.getType().getSimpleName() + " " + field.getName());
            }
        }
        for (Constructor<?> made : TubeShop.class.getDeclaredConstructors()) {
            if (isSeen(made)) {
                got.add("TubeShop(" + names(made.getParameterTypes()) + ")");
            }
        }
        for (Method method : TubeShop.class.getDeclaredMethods()) {
            if (isSeen(method)) {
                got.add(text(method));
            }
        }
        check("the face is " + got, got.equals(due));
        check("the class is public and final",
            TubeShop.class.getModifiers() == (Modifier.PUBLIC | Modifier.FINAL));
        check("NONE is -1", TubeShop.NONE == -1);
        checkNoStaticState(TubeShop.class);
        for (Class<?> inside : TubeShop.class.getDeclaredClasses()) {
            check(inside + " is static", Modifier.isStatic(inside.getModifiers()));
            checkNoStaticState(inside);
        }
        System.out.println(wrong == 0 ? "the face is as due" : wrong + " things are not as due");
        if (wrong != 0) {
            System.exit(1);
        }
    }

    private static void checkNoStaticState(Class<?> owner) {
        for (Field field : owner.getDeclaredFields()) {
            int is = field.getModifiers();
            check(field + " is no static state", !Modifier.isStatic(is) || Modifier.isFinal(is));
        }
    }

    private static boolean isSeen(Member member) {
        return !Modifier.isPrivate(member.getModifiers()) && !member.isSynthetic();
    }

    private static String text(Method method) {
        String text = method.getReturnType().getSimpleName() + " " + method.getName()
            + "(" + names(method.getParameterTypes()) + ")";
        Class<?>[] thrown = method.getExceptionTypes();
        return thrown.length == 0 ? text : text + " throws " + names(thrown);
    }

    private static String names(Class<?>[] types) {
        StringBuilder text = new StringBuilder();
        for (Class<?> type : types) {
            text.append(text.length() == 0 ? "" : ", ").append(type.getSimpleName());
        }
        return text.toString();
    }

    private static void check(String what, boolean holds) {
        if (!holds) {
            wrong++;
            System.out.println("not so: " + what);
        }
    }
}
