import java.lang.reflect.Constructor;
import java.lang.reflect.Executable;
import java.lang.reflect.Field;
import java.lang.reflect.Method;
import java.lang.reflect.Modifier;
import java.util.Set;
import java.util.TreeSet;

/** 'The public face': the constructor, each method with its types and exceptions, and nothing else to be seen. */
public final class FaceTest {
    private static final String ARGUMENT = " throws IllegalArgumentException";
    private static final String ARGUMENT_OR_STATE = ARGUMENT + " IllegalStateException";

    private static final String[] METHODS = {
        "void set(int,long)" + ARGUMENT,
        "void copy(int,int)" + ARGUMENT,
        "void add(int,int,int)" + ARGUMENT_OR_STATE,
        "void subtract(int,int,int)" + ARGUMENT_OR_STATE,
        "void multiply(int,int,int)" + ARGUMENT_OR_STATE,
        "void times(int,int,long)" + ARGUMENT_OR_STATE,
        "void shift(int,int,int)" + ARGUMENT_OR_STATE,
        "void half(int,int,int)" + ARGUMENT,
        "void divide(int,int,int,int)" + ARGUMENT + " ArithmeticException",
        "void gcd(int,int,int)" + ARGUMENT,
        "void negate(int,int)" + ARGUMENT,
        "int compare(int,int)" + ARGUMENT,
        "long rest(int,long)" + ARGUMENT,
        "long value(int)" + ARGUMENT_OR_STATE,
        "long limb(int,int)" + ARGUMENT,
        "int look(int,int)" + ARGUMENT,
        "int feed(int,long)" + ARGUMENT_OR_STATE,
        "boolean read(int)" + ARGUMENT,
        "int write(int)" + ARGUMENT,
        "long out(int) throws NoSuchElementException",
        "int text(int)" + ARGUMENT,
    };

    public static void main(String[] args) {
        Bench.check("the class", Modifier.toString(BigDesk.class.getModifiers()), "public final");
        Bench.check("the class it extends", BigDesk.class.getSuperclass(), Object.class);
        Bench.check("interfaces", BigDesk.class.getInterfaces().length, 0);
        Bench.check("constructors", constructors(), Set.of("public BigDesk()"));
        Set<String> due = Set.of(METHODS);
        Set<String> found = visibleMethods();
        Bench.check("methods that are due and not there", without(due, found), Set.of());
        Bench.check("methods that are there and not due", without(found, due), Set.of());
        for (Field field : BigDesk.class.getDeclaredFields()) {
            Bench.check(field.getName() + " is private", Modifier.isPrivate(field.getModifiers()), true);
        }
        for (Class<?> inside : BigDesk.class.getDeclaredClasses()) {
            int modifiers = inside.getModifiers();
            boolean seen = Modifier.isPublic(modifiers) || Modifier.isProtected(modifiers);
            Bench.check(inside.getSimpleName() + " is seen from outside", seen, false);
            Bench.check(inside.getSimpleName() + " is static", Modifier.isStatic(modifiers), true);
        }
        Bench.finish();
    }

    private static Set<String> constructors() {
        Set<String> found = new TreeSet<>();
        for (Constructor<?> constructor : BigDesk.class.getDeclaredConstructors()) {
            found.add(Modifier.toString(constructor.getModifiers()) + " " + described(constructor));
        }
        return found;
    }

    private static Set<String> visibleMethods() {
        Set<String> found = new TreeSet<>();
        for (Method method : BigDesk.class.getDeclaredMethods()) {
            if (Modifier.isPrivate(method.getModifiers())) {
                continue;
            }
            Bench.check(method.getName() + " is", Modifier.toString(method.getModifiers()), "public");
            found.add(method.getReturnType().getName() + " " + described(method));
        }
        return found;
    }

    private static Set<String> without(Set<String> all, Set<String> taken) {
        Set<String> left = new TreeSet<>(all);
        left.removeAll(taken);
        return left;
    }

    private static String described(Executable member) {
        StringBuilder text = new StringBuilder(member.getName()).append('(');
        for (Class<?> type : member.getParameterTypes()) {
            text.append(text.charAt(text.length() - 1) == '(' ? "" : ",").append(type.getName());
        }
        text.append(')');
        Class<?>[] exceptions = member.getExceptionTypes();
        for (int i = 0; i < exceptions.length; i++) {
            text.append(i == 0 ? " throws " : " ").append(exceptions[i].getSimpleName());
        }
        return text.toString();
    }
}
