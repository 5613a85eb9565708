import java.lang.reflect.Constructor;
import java.lang.reflect.Field;
import java.lang.reflect.Method;
import java.lang.reflect.Modifier;
import java.util.Set;
import java.util.TreeSet;

/** The public face is the document's, and nothing else of the class can be seen from outside. */
public final class FaceTest {
    private static final String[] METHODS = {
        "void set(int,long)",
        "void copy(int,int)",
        "void add(int,int,int)",
        "void subtract(int,int,int)",
        "void multiply(int,int,int)",
        "void times(int,int,long)",
        "void shift(int,int,int)",
        "void half(int,int,int)",
        "void divide(int,int,int,int)",
        "void gcd(int,int,int)",
        "void negate(int,int)",
        "int compare(int,int)",
        "long rest(int,long)",
        "long value(int)",
        "long limb(int,int)",
        "int look(int,int)",
        "int feed(int,long)",
        "boolean read(int)",
        "int write(int)",
        "long out(int)",
        "int text(int)",
    };

    public static void main(String[] args) {
        int modifiers = BigDesk.class.getModifiers();
        Bench.check("public and final", Modifier.isPublic(modifiers) && Modifier.isFinal(modifiers), true);
        Constructor<?>[] constructors = BigDesk.class.getDeclaredConstructors();
        Bench.check("constructors", constructors.length, 1);
        Bench.check("the constructor's parameters", constructors[0].getParameterCount(), 0);
        Bench.check("the constructor is public", Modifier.isPublic(constructors[0].getModifiers()), true);
        Bench.check("methods", visibleMethods(), new TreeSet<>(Set.of(METHODS)));
        for (Field field : BigDesk.class.getDeclaredFields()) {
            Bench.check(field.getName() + " is private", Modifier.isPrivate(field.getModifiers()), true);
        }
        Bench.finish();
    }

    private static Set<String> visibleMethods() {
        Set<String> found = new TreeSet<>();
        for (Method method : BigDesk.class.getDeclaredMethods()) {
            if (Modifier.isPrivate(method.getModifiers())) {
                continue;
            }
            StringBuilder types = new StringBuilder();
            for (Class<?> type : method.getParameterTypes()) {
                types.append(types.length() == 0 ? "" : ",").append(type.getName());
            }
            found.add(method.getReturnType().getName() + " " + method.getName() + "(" + types + ")");
        }
        return found;
    }
}
