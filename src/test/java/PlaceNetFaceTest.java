import java.lang.reflect.Constructor;
import java.lang.reflect.Field;
import java.lang.reflect.Method;
import java.lang.reflect.Modifier;
import java.util.List;
import java.util.TreeSet;

/** The public face, and what LANGUAGE.md rules 1, 5 and 11 ask of members. */
public final class PlaceNetFaceTest {
    private static final List<String> FACE = List.of(
            "void delegate(int,int,int,int) IllegalArgumentException",
            "void site(int,int) IllegalArgumentException",
            "int prefix(int,int,int) IllegalArgumentException",
            "void move(int,int) IllegalArgumentException",
            "int register(int) IllegalArgumentException",
            "int send(int,int) IllegalStateException,IllegalArgumentException",
            "void carry(int) IndexOutOfBoundsException",
            "void repeat(int) IndexOutOfBoundsException",
            "void drop(int) IndexOutOfBoundsException",
            "void forge(int,int,int) IndexOutOfBoundsException",
            "int message(int,int) IndexOutOfBoundsException",
            "int run(int) IllegalArgumentException",
            "void pass(int) IllegalArgumentException",
            "int packet(int,int) IllegalArgumentException",
            "int note(int,int,int) IllegalArgumentException",
            "int truth(int) ",
            "int count(int) ");

    private static String names(Class<?>[] types) {
        StringBuilder text = new StringBuilder();
        for (Class<?> type : types) {
            text.append(text.length() == 0 ? "" : ",").append(type.getSimpleName());
        }
        return text.toString();
    }

    private static String form(Method m) {
        return m.getReturnType().getSimpleName() + " " + m.getName() + "("
                + names(m.getParameterTypes()) + ") " + names(m.getExceptionTypes());
    }

    public static void main(String[] args) {
        Check check = new Check();
        check.about("face");
        TreeSet<String> open = new TreeSet<>();
        TreeSet<String> openNames = new TreeSet<>();
        for (Method m : PlaceNet.class.getDeclaredMethods()) {
            if (!Modifier.isPrivate(m.getModifiers())) {
                open.add((Modifier.isPublic(m.getModifiers()) ? "" : "not public: ") + form(m));
                openNames.add(m.getName());
            }
        }
        check.same("methods as in the document: " + open, open.equals(new TreeSet<>(FACE)) ? 1 : 0, 1);
        Constructor<?>[] made = PlaceNet.class.getDeclaredConstructors();
        check.same("constructors", made.length, 1);
        check.same("parameters of it", made[0].getParameterCount(), 0);
        check.same("it is public", Modifier.isPublic(made[0].getModifiers()) ? 1 : 0, 1);
        check.same("the class is public and final", PlaceNet.class.getModifiers()
                & (Modifier.PUBLIC | Modifier.FINAL), Modifier.PUBLIC | Modifier.FINAL);
        checkMembers(check, PlaceNet.class, openNames, true);
        for (Class<?> inside : PlaceNet.class.getDeclaredClasses()) {
            check.same(inside + " is static", Modifier.isStatic(inside.getModifiers()) ? 1 : 0, 1);
            checkMembers(check, inside, openNames, false);
        }
        check.same("classes, at most 12", PlaceNet.class.getDeclaredClasses().length + 1 <= 12 ? 1 : 0, 1);
        check.end();
    }

    private static void checkMembers(Check check, Class<?> type, TreeSet<String> openNames, boolean isFace) {
        int fields = 0;
        for (Field f : type.getDeclaredFields()) {
            if (Modifier.isStatic(f.getModifiers())) {
                check.same(f + " is final", Modifier.isFinal(f.getModifiers()) ? 1 : 0, 1);
            } else {
                fields++;
            }
            if (isFace) {
                check.same(f + " is private", Modifier.isPrivate(f.getModifiers()) ? 1 : 0, 1);
            }
        }
        check.same(type + " has at most twenty fields", fields <= 20 ? 1 : 0, 1);
        for (Method m : type.getDeclaredMethods()) {
            check.same(m + " takes at most seven", m.getParameterCount() <= 7 ? 1 : 0, 1);
            if (!isFace || Modifier.isPrivate(m.getModifiers())) {
                check.same(m + " has a name of its own", openNames.contains(m.getName()) ? 1 : 0, 0);
            }
        }
    }
}
