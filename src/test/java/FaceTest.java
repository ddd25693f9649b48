import java.lang.reflect.Constructor;
import java.lang.reflect.Field;
import java.lang.reflect.Method;
import java.lang.reflect.Modifier;
import java.util.Arrays;
import java.util.Set;
import java.util.TreeSet;

/** The public face: just the members that the document names, and what LANGUAGE.md asks of the others. */
public final class FaceTest {
    private static final String ARGUMENT = " IllegalArgumentException";
    private static final String STATE = " IllegalStateException";
    private static final String INDEX = " IndexOutOfBoundsException";

    public static void main(String[] args) {
        Set<String> want = new TreeSet<>(Arrays.asList(
            "int pass(4)" + ARGUMENT + STATE,
            "int setLight(3)" + INDEX + ARGUMENT,
            "int addRoom(3)" + ARGUMENT + STATE,
            "int bore(2)" + INDEX + ARGUMENT,
            "int paint(2)" + INDEX + ARGUMENT,
            "int seat(2)" + INDEX + ARGUMENT + STATE,
            "int passer(2)" + INDEX,
            "int room(2)" + INDEX,
            "int wall(2)" + INDEX,
            "int bright(2)" + INDEX,
            "int count(1)" + INDEX,
            "int go(1)" + ARGUMENT,
            "int when(1)" + INDEX,
            "int advise(2)" + INDEX + ARGUMENT,
            "int seen(1)" + INDEX,
            "int foresee(2)" + ARGUMENT + INDEX,
            "double mean(0)",
            "long digest(0)"));
        Set<String> got = new TreeSet<>();
        Set<String> names = new TreeSet<>();
        for (Method method : PinholeHouse.class.getDeclaredMethods()) {
            if (!Modifier.isPrivate(method.getModifiers())) {
                got.add(told(method));
                names.add(method.getName());
            }
        }
        boolean good = same("public methods", want, got) & noNameTwice(names) & noOtherMembers();
        if (!good) {
            System.exit(1);
        }
    }

    private static String told(Method method) {
        StringBuilder text = new StringBuilder();
        text.append(method.getReturnType()).append(' ').append(method.getName());
        text.append('(').append(parametersOf(method)).append(')');
        for (Class<?> thrown : method.getExceptionTypes()) {
            text.append(' ').append(thrown.getSimpleName());
        }
        return text.toString();
    }

    /** How many, as all are to be int; what they are, if they are not. */
    private static String parametersOf(Method method) {
        for (Class<?> type : method.getParameterTypes()) {
            if (type != int.class) {
                return Arrays.toString(method.getParameterTypes());
            }
        }
        return "" + method.getParameterCount();
    }

    private static boolean same(String what, Set<String> want, Set<String> got) {
        if (!want.equals(got)) {
            System.out.println(what + " are " + got + ", due are " + want);
        }
        return want.equals(got);
    }

    private static boolean noNameTwice(Set<String> names) {
        boolean good = true;
        for (Class<?> owner : PinholeHouse.class.getDeclaredClasses()) {
            good &= ownMethodsNamedApart(owner, names);
        }
        return good & ownMethodsNamedApart(PinholeHouse.class, names);
    }

    private static boolean ownMethodsNamedApart(Class<?> owner, Set<String> names) {
        boolean good = true;
        for (Method method : owner.getDeclaredMethods()) {
            boolean ofTheFace = owner == PinholeHouse.class && Modifier.isPublic(method.getModifiers());
            if (!ofTheFace && names.contains(method.getName())) {
                System.out.println(method + " bears the name of a public method");
                good = false;
            }
        }
        return good;
    }

    private static boolean noOtherMembers() {
        boolean good = Modifier.isPublic(PinholeHouse.class.getModifiers())
            && Modifier.isFinal(PinholeHouse.class.getModifiers());
        for (Field field : PinholeHouse.class.getDeclaredFields()) {
            good &= Modifier.isPrivate(field.getModifiers());
        }
        for (Class<?> inside : PinholeHouse.class.getDeclaredClasses()) {
            good &= Modifier.isStatic(inside.getModifiers()) && !Modifier.isPublic(inside.getModifiers());
        }
        Constructor<?>[] constructors = PinholeHouse.class.getDeclaredConstructors();
        good &= constructors.length == 1 && constructors[0].getParameterCount() == 0
            && Modifier.isPublic(constructors[0].getModifiers());
        if (!good) {
            System.out.println("the class has a member beyond the document's face");
        }
        return good;
    }
}
