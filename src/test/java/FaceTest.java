import java.lang.reflect.Constructor;
import java.lang.reflect.Field;
import java.lang.reflect.Member;
import java.lang.reflect.Method;
import java.lang.reflect.Modifier;
import java.util.Arrays;
import java.util.Set;
import java.util.TreeSet;

/** The face of the class is the document's, and nothing besides it can be reached. */
final class FaceTest {
    private static final String I = "IndexOutOfBoundsException";
    private static final String A = "IllegalArgumentException";
    private static final String S = "IllegalStateException";

    private static final String[] FACE = {
        "int setDues(int, int) " + I + " " + A,
        "int setStrikePay(int) " + A,
        "int join(int, int) " + I + " " + S,
        "void move(int, int, int) " + I + " " + S,
        "boolean leave(int, boolean) " + I + " " + S,
        "int quit(int) " + I + " " + S,
        "int pay(int, int) " + I + " " + A,
        "int open(int) " + I + " " + S,
        "int vote(int, boolean) " + I + " " + S,
        "boolean close(int) " + I + " " + S,
        "void strike(int, boolean) " + I + " " + S,
        "int advance(int) " + A + " " + S,
        "int fold(int) " + A,
        "int day()",
        "int fund()",
        "int owed(int) " + I,
        "int credit(int) " + I,
        "int laid(int, int) " + I + " " + S,
        "int laidFor(int, int) " + I,
        "boolean hasStanding(int) " + I,
        "int strikePay(int) " + I,
        "int delegates(int) " + I,
        "boolean isOut(int) " + I,
    };

    public static void main(String[] arguments) {
        Check check = new Check();
        Class<UnionOffice> face = UnionOffice.class;
        check.same("modifiers", Modifier.toString(face.getModifiers()), "public final");
        check.same("superclass", face.getSuperclass(), Object.class);
        check.same("interfaces", face.getInterfaces().length, 0);
        check.same("constructors", Arrays.toString(face.getDeclaredConstructors()),
                "[public UnionOffice()]");
        check.same("public methods", publicMethods(face), new TreeSet<>(Arrays.asList(FACE)));
        checkHidden(check, face);
        check.end("FaceTest");
    }

    private static Set<String> publicMethods(Class<?> face) {
        Set<String> told = new TreeSet<>();
        for (Method method : face.getDeclaredMethods()) {
            if (!Modifier.isPrivate(method.getModifiers())) {
                told.add(tell(method));
            }
        }
        return told;
    }

    private static String tell(Method method) {
        StringBuilder told = new StringBuilder();
        told.append(method.getReturnType().getSimpleName()).append(' ').append(method.getName());
        told.append(names(method.getParameterTypes(), "(", ", ", ")"));
        told.append(names(method.getExceptionTypes(), " ", " ", ""));
        return told.toString().trim();
    }

    private static String names(Class<?>[] types, String before, String between, String behind) {
        String[] names = new String[types.length];
        for (int i = 0; i < types.length; i++) {
            names[i] = types[i].getSimpleName();
        }
        return before + String.join(between, names) + behind;
    }

    private static void checkHidden(Check check, Class<?> face) {
        Set<String> publicNames = new TreeSet<>();
        for (String method : FACE) {
            publicNames.add(method.substring(method.indexOf(' ') + 1, method.indexOf('(')));
        }
        for (Field field : face.getDeclaredFields()) {
            checkPrivate(check, field);
        }
        checkNames(check, face, publicNames);
        for (Class<?> inside : face.getDeclaredClasses()) {
            checkNames(check, inside, publicNames);
            check.same(inside + " is static", Modifier.isStatic(inside.getModifiers()), true);
            check.same(inside + " is public", Modifier.isPublic(inside.getModifiers()), false);
            for (Constructor<?> constructor : inside.getDeclaredConstructors()) {
                checkPrivate(check, constructor);
            }
        }
    }

    /** No private method bears the name of a public one, in the classes inside too. */
    private static void checkNames(Check check, Class<?> holder, Set<String> publicNames) {
        for (Method method : holder.getDeclaredMethods()) {
            boolean isHidden = Modifier.isPrivate(method.getModifiers());
            check.same(method + " bears a public name and is private",
                    isHidden && publicNames.contains(method.getName()), false);
        }
    }

    private static void checkPrivate(Check check, Member member) {
        check.same(member + " is private", Modifier.isPrivate(member.getModifiers()), true);
    }
}
