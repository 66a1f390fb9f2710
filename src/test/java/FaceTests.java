import java.lang.reflect.Constructor;
import java.lang.reflect.Field;
import java.lang.reflect.Method;
import java.lang.reflect.Modifier;
import java.util.ArrayList;
import java.util.Arrays;
import java.util.List;
import java.util.TreeSet;

/** The public face is the document's, nothing less and nothing more (rules 1, 2 and 11 of LANGUAGE.md). */
public final class FaceTests {
    private static final String[] FACE = {
        "void field(int,int,int) IllegalArgumentException",
        "void feed(int,int,int,int,int)",
        "int end(int)",
        "int read(int) IndexOutOfBoundsException IllegalArgumentException",
        "int fault(int)",
        "void add(int,int,int,int) IndexOutOfBoundsException",
        "void multiply(int,int,int) IndexOutOfBoundsException IllegalStateException",
        "void derive(int,int,int) IndexOutOfBoundsException",
        "void put(int,int,int,int) IndexOutOfBoundsException",
        "int about(int,int)",
        "int term(int,int,int)",
        "int print(int) IndexOutOfBoundsException",
        "int output(int)",
        "void clear(int) IndexOutOfBoundsException",
        "int join(int,int) IndexOutOfBoundsException IllegalArgumentException IllegalStateException",
        "void both(int,int,boolean,int) IndexOutOfBoundsException IllegalStateException",
        "int basis(int,int) IndexOutOfBoundsException IllegalArgumentException",
        "void element(int,int,int) IndexOutOfBoundsException IllegalStateException",
        "int ideal(int,int)",
        "int standard(int,int)",
        "boolean remainder(int,int,int) IndexOutOfBoundsException IllegalStateException",
        "int proved()",
        "boolean radical(int,int,int) IndexOutOfBoundsException IllegalArgumentException",
        "int dictionary(int) IndexOutOfBoundsException IllegalStateException",
        "int entry(int,int,int)",
        "int zeros(int) IndexOutOfBoundsException IllegalStateException",
        "int zero(int,int)",
    };

    private static int wrong = 0;

    private static void check(boolean fine, String what) {
        if (!fine) {
            wrong++;
            System.out.println("wrong: " + what);
        }
    }

    private static String told(Method m) {
        List<String> parameters = new ArrayList<>();
        for (Class<?> c : m.getParameterTypes()) {
            parameters.add(c.getSimpleName());
        }
        StringBuilder text = new StringBuilder();
        text.append(m.getReturnType().getSimpleName()).append(' ').append(m.getName());
        text.append('(').append(String.join(",", parameters)).append(')');
        for (Class<?> c : m.getExceptionTypes()) {
            text.append(' ').append(c.getSimpleName());
        }
        return text.toString();
    }

    private static void checkMethods() {
        TreeSet<String> got = new TreeSet<>();
        TreeSet<String> names = new TreeSet<>();
        for (Method m : IdealWorks.class.getDeclaredMethods()) {
            if (Modifier.isPublic(m.getModifiers())) {
                got.add(told(m));
                names.add(m.getName());
                check(!Modifier.isStatic(m.getModifiers()), m + " is static");
            } else {
                check(Modifier.isPrivate(m.getModifiers()), m + " is neither public nor private");
            }
        }
        check(got.equals(new TreeSet<>(Arrays.asList(FACE))), "the methods are " + got);
        for (Class<?> c : IdealWorks.class.getDeclaredClasses()) {
            int kind = c.getModifiers();
            check(Modifier.isStatic(kind) && !Modifier.isPublic(kind) && !Modifier.isProtected(kind), c + " is not as it must be");
            for (Method m : c.getDeclaredMethods()) {
                check(!names.contains(m.getName()), m + " bears the name of a public method");
            }
            check(c.getDeclaredFields().length <= 26, c + " has many fields");
        }
        for (Method m : IdealWorks.class.getDeclaredMethods()) {
            boolean twice = !Modifier.isPublic(m.getModifiers()) && names.contains(m.getName());
            check(!twice, m + " bears the name of a public method");
        }
        check(IdealWorks.class.getDeclaredClasses().length <= 12, "there are many classes");
    }

    private static void checkFields() {
        for (Field f : IdealWorks.class.getDeclaredFields()) {
            boolean constant = Modifier.isStatic(f.getModifiers());
            check(f.getName().equals("NONE") == Modifier.isPublic(f.getModifiers()), f + " is seen from outside or is not");
            check(f.getName().equals("NONE") || Modifier.isPrivate(f.getModifiers()), f + " is not private");
            check(!constant || Modifier.isFinal(f.getModifiers()), f + " is static and not final");
        }
        check(IdealWorks.NONE == -1, "NONE is " + IdealWorks.NONE);
    }

    public static void main(String[] args) {
        check(Modifier.isPublic(IdealWorks.class.getModifiers()), "the class is not public");
        check(Modifier.isFinal(IdealWorks.class.getModifiers()), "the class is not final");
        Constructor<?>[] made = IdealWorks.class.getDeclaredConstructors();
        check(made.length == 1 && Modifier.isPublic(made[0].getModifiers()) && made[0].getParameterCount() == 0, "the constructor");
        checkMethods();
        checkFields();
        System.out.println(wrong == 0 ? "the face is as due" : wrong + " things are not as due");
        if (wrong != 0) {
            System.exit(1);
        }
    }
}
