import java.lang.reflect.Constructor;
import java.lang.reflect.Field;
import java.lang.reflect.Member;
import java.lang.reflect.Method;
import java.lang.reflect.Modifier;
import java.util.ArrayList;
import java.util.List;
import java.util.TreeSet;

/** The public face is the document's and no more; what is inside is private, and holds no static state. */
public final class FaceTest {
    private static final String INDEX = " IndexOutOfBoundsException";
    private static final String ARGUMENT = " IllegalArgumentException";
    private static final String STATE = " IllegalStateException";
    private static final String[] FACE = {
        "int addMember()" + STATE,
        "int setMember(int int int)" + INDEX + ARGUMENT,
        "int setRule(int)" + ARGUMENT,
        "int setPrices(int int int)" + ARGUMENT,
        "int setBattery(int int int)" + ARGUMENT,
        "int content()",
        "int members()",
        "boolean meter(int int int int)" + INDEX + ARGUMENT + STATE,
        "int reading(int int boolean)" + INDEX,
        "int present()",
        "int close()" + STATE,
        "long correct(int int int int)" + INDEX + ARGUMENT + STATE,
        "int flow(int int int)" + INDEX,
        "int contentAt(int)" + INDEX,
        "int would(int int)" + INDEX + ARGUMENT + STATE,
        "int bestRule(int)" + INDEX + STATE,
        "long account(int boolean)" + INDEX,
        "long common(int)" + INDEX,
        "int settle(int)" + ARGUMENT,
        "long pay(int int)" + INDEX + ARGUMENT,
        "int late(int)" + ARGUMENT,
        "int corrections()",
        "double independence()",
        "long digest()",
    };
    public static void main(String[] args) {
        publicFace();
        privateRest();
        Check.end("FaceTest");
    }

    private static void publicFace() {
        TreeSet<String> face = new TreeSet<>();
        for (Method method : EnergyLedger.class.getDeclaredMethods()) {
            if (!Modifier.isPrivate(method.getModifiers())) {
                face.add(written(method));
                Check.isTrue(method + " is public and of the object", method.getModifiers() == Modifier.PUBLIC);
            }
        }
        Check.equal("the face", face, new TreeSet<>(List.of(FACE)));
        Check.isTrue("public and final", EnergyLedger.class.getModifiers() == (Modifier.PUBLIC | Modifier.FINAL));
        Constructor<?>[] constructors = EnergyLedger.class.getDeclaredConstructors();
        Check.isTrue("one public constructor without arguments", constructors.length == 1
                && constructors[0].getModifiers() == Modifier.PUBLIC && constructors[0].getParameterCount() == 0);
    }

    private static String written(Method method) {
        List<String> types = new ArrayList<>();
        for (Class<?> type : method.getParameterTypes()) {
            types.add(type.getSimpleName());
        }
        StringBuilder out = new StringBuilder();
        out.append(method.getReturnType().getSimpleName()).append(' ').append(method.getName());
        out.append('(').append(String.join(" ", types)).append(')');
        for (Class<?> type : method.getExceptionTypes()) {
            out.append(' ').append(type.getSimpleName());
        }
        return out.toString();
    }

    private static void privateRest() {
        TreeSet<String> names = new TreeSet<>();
        for (Method method : EnergyLedger.class.getMethods()) {
            names.add(method.getName());
        }
        checkPrivate(EnergyLedger.class.getDeclaredFields());
        checkStatic(EnergyLedger.class.getDeclaredFields());
        for (Method method : EnergyLedger.class.getDeclaredMethods()) {
            Check.isTrue(method + " bears no public name",
                    !Modifier.isPrivate(method.getModifiers()) || !names.contains(method.getName()));
        }
        for (Class<?> inside : EnergyLedger.class.getDeclaredClasses()) {
            int kind = inside.getModifiers();
            Check.isTrue(inside + " is private and static", Modifier.isPrivate(kind) && Modifier.isStatic(kind));
            checkStatic(inside.getDeclaredFields());
            for (Method method : inside.getDeclaredMethods()) {
                Check.isTrue(method + " bears no public name", !names.contains(method.getName()));
            }
        }
    }

    private static void checkPrivate(Member[] members) {
        for (Member member : members) {
            Check.isTrue(member + " is private", Modifier.isPrivate(member.getModifiers()));
        }
    }

    private static void checkStatic(Field[] fields) {
        for (Field field : fields) {
            int kind = field.getModifiers();
            Check.isTrue(field + " is no static state", !Modifier.isStatic(kind) || Modifier.isFinal(kind));
        }
    }
}
