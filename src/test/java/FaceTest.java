import java.lang.reflect.Constructor;
import java.lang.reflect.Field;
import java.lang.reflect.Method;
import java.lang.reflect.Modifier;
import java.util.Arrays;
import java.util.Set;
import java.util.TreeSet;

/** The class has the document's face and, as LANGUAGE.md's rules 1 and 5 ask, nothing beside it. */
public final class FaceTest {
    private static final String[] FACE = {
        "int farm(int) IllegalArgumentException, IllegalStateException",
        "int label(int, int) IndexOutOfBoundsException, IllegalArgumentException",
        "int price(int) IllegalArgumentException",
        "int bring(int, int, int) IndexOutOfBoundsException, IllegalArgumentException, IllegalStateException",
        "int pass(int, int, int) IllegalArgumentException, IllegalStateException",
        "int bed(int) IllegalArgumentException, IllegalStateException",
        "int pulp(int, int) IndexOutOfBoundsException, IllegalStateException",
        "int wash(int, int, boolean) IndexOutOfBoundsException, IllegalStateException",
        "int whole(int, int) IndexOutOfBoundsException, IllegalStateException",
        "int turn(int) IndexOutOfBoundsException, IllegalStateException",
        "boolean cover(int, boolean) IndexOutOfBoundsException",
        "int store(int) IndexOutOfBoundsException, IllegalStateException",
        "int bias(int, int) IndexOutOfBoundsException, IllegalArgumentException",
        "int cup(int, int) IndexOutOfBoundsException, IllegalStateException",
        "int blend(int, int) IndexOutOfBoundsException, IllegalArgumentException, IllegalStateException",
        "int sell(int, int, boolean) IndexOutOfBoundsException, IllegalArgumentException, IllegalStateException",
        "int ofFarm(int, int) IndexOutOfBoundsException, IllegalArgumentException",
        "int ofBasket(int, int) IndexOutOfBoundsException, IllegalArgumentException",
        "int ofTank(int, int) IndexOutOfBoundsException, IllegalArgumentException",
        "int ofBed(int, int) IndexOutOfBoundsException, IllegalArgumentException",
        "int ofLot(int, int) IndexOutOfBoundsException, IllegalArgumentException",
        "int kilosOf(int, int) IndexOutOfBoundsException",
        "int many(int) IllegalArgumentException",
        "double meanScore()",
        "int readyIn(int, int) IndexOutOfBoundsException, IllegalArgumentException",
        "int dryIn(int, int) IndexOutOfBoundsException, IllegalArgumentException",
        "int bestBlend()",
        "int wouldShare(int, int, int, boolean) IndexOutOfBoundsException, IllegalArgumentException, IllegalStateException",
        "long digest()"};

    public static void main(String[] args) {
        Class<?> face = CherryStation.class;
        Checks.equal("public final class", face.getModifiers(), Modifier.PUBLIC | Modifier.FINAL);
        checkMethods(face);
        for (Constructor<?> c : face.getDeclaredConstructors()) {
            Checks.equal("constructor " + c, c.getModifiers() == Modifier.PUBLIC && c.getParameterCount() == 0, true);
        }
        for (Field f : face.getDeclaredFields()) {
            Checks.equal("private field " + f, Modifier.isPrivate(f.getModifiers()), true);
        }
        checkStatics(face);
        for (Class<?> inner : face.getDeclaredClasses()) {
            int m = inner.getModifiers();
            Checks.equal("static and not public " + inner,
                Modifier.isStatic(m) && !Modifier.isPublic(m) && !Modifier.isProtected(m), true);
            checkStatics(inner);
        }
        Checks.end();
    }

    private static void checkMethods(Class<?> face) {
        Set<String> due = new TreeSet<>(Arrays.asList(FACE));
        Set<String> got = new TreeSet<>();
        Set<String> names = new TreeSet<>();
        for (Method m : face.getDeclaredMethods()) {
            if (!Modifier.isPrivate(m.getModifiers())) {
                Checks.equal("public and not static " + m, m.getModifiers(), Modifier.PUBLIC);
                got.add(told(m));
                names.add(m.getName());
            }
        }
        if (!got.equals(due)) {
            Checks.complain("the face is " + got + ", due is " + due);
        }
        for (Method m : face.getDeclaredMethods()) {
            if (Modifier.isPrivate(m.getModifiers()) && names.contains(m.getName())) {
                Checks.complain("a private method has a public one's name: " + m);
            }
        }
    }

    private static String told(Method m) {
        return (m.getReturnType() + " " + m.getName() + "(" + names(m.getParameterTypes()) + ") "
            + names(m.getExceptionTypes())).trim();
    }

    private static String names(Class<?>[] types) {
        return String.join(", ", Arrays.stream(types).map(Class::getSimpleName).toArray(String[]::new));
    }

    private static void checkStatics(Class<?> type) {
        for (Field f : type.getDeclaredFields()) {
            int m = f.getModifiers();
            Checks.equal("static fields are final " + f, !Modifier.isStatic(m) || Modifier.isFinal(m), true);
        }
    }
}
