import java.lang.reflect.Constructor;
import java.lang.reflect.Field;
import java.lang.reflect.Method;
import java.lang.reflect.Modifier;
import java.util.Arrays;
import java.util.Set;
import java.util.TreeSet;

/** The class has just the document's face. */
public final class FaceTest {
    private static final String I = "IndexOutOfBoundsException";
    private static final String A = "IllegalArgumentException";
    private static final String S = "IllegalStateException";
    private static final String[] METHODS = {
        "int open(int, int, int, int) " + I + " " + A + " " + S,
        "void fees(int, int, int, int) " + I + " " + A,
        "long tell(int, long) " + I + " " + S,
        "long lock(long)",
        "boolean knows(int, long) " + I,
        "int promise(int, int, int, long, int) " + I + " " + A + " " + S,
        "int keep(int, int, long) " + I + " " + A + " " + S,
        "int drop(int, int) " + I + " " + S,
        "void close(int) " + I + " " + S,
        "int route(int, int, int) " + I + " " + A,
        "int hop(int) " + I,
        "int pay(int, int, int, long, int) " + I + " " + A + " " + S,
        "int step(int) " + I + " " + S,
        "int payment(int, int) " + I + " " + A,
        "void publish(int, int, int) " + I + " " + S,
        "int punish(int) " + I + " " + S,
        "int claim(int, int, long) " + I + " " + A + " " + S,
        "int takeBack(int, int) " + I + " " + S,
        "int settle(int) " + I + " " + S,
        "void watch(int, boolean) " + I,
        "int grow(int) " + A,
        "int height()",
        "int coins(int) " + I,
        "int channels()",
        "int channel(int, int) " + I + " " + A,
        "int state(int, int, int) " + I + " " + A,
        "int made(int, int, int) " + I + " " + A,
    };
    private static final String[] CONSTANTS = {
        "NONE=-1", "OPEN=0", "PUBLISHED=1", "CLOSED=2", "FORWARD=0", "KEPT=1", "DROPPED=2", "DONE=3",
    };

    public static void main(String[] args) throws Exception {
        methods();
        constants();
        constructorAndClasses();
        Check.end();
    }

    private static void methods() {
        Set<String> got = new TreeSet<>();
        Set<String> names = new TreeSet<>();
        for (Method method : ChannelNet.class.getDeclaredMethods()) {
            if (Modifier.isPublic(method.getModifiers())) {
                got.add(write(method));
                names.add(method.getName());
                Check.no(method + " is static", Modifier.isStatic(method.getModifiers()));
            }
        }
        Check.text("the methods", got.toString(), new TreeSet<>(Arrays.asList(METHODS)).toString());
        for (Method method : ChannelNet.class.getDeclaredMethods()) {
            if (!Modifier.isPublic(method.getModifiers())) {
                Check.yes(method + " is private", Modifier.isPrivate(method.getModifiers()));
                Check.no(method + " has a public name", names.contains(method.getName()));
            }
        }
    }

    private static String write(Method method) {
        StringBuilder text = new StringBuilder();
        text.append(method.getReturnType()).append(' ').append(method.getName()).append('(');
        for (Class<?> type : method.getParameterTypes()) {
            text.append(text.charAt(text.length() - 1) == '(' ? "" : ", ").append(type);
        }
        text.append(')');
        for (Class<?> type : method.getExceptionTypes()) {
            text.append(' ').append(type.getSimpleName());
        }
        return text.toString();
    }

    private static void constants() throws IllegalAccessException {
        Set<String> got = new TreeSet<>();
        for (Field field : ChannelNet.class.getDeclaredFields()) {
            int modifiers = field.getModifiers();
            if (Modifier.isPublic(modifiers)) {
                got.add(field.getName() + "=" + field.get(null));
            } else {
                Check.yes(field + " is private", Modifier.isPrivate(modifiers));
            }
            Check.yes(field + " is no state of the class", !Modifier.isStatic(modifiers) || Modifier.isFinal(modifiers));
        }
        Check.text("the constants", got.toString(), new TreeSet<>(Arrays.asList(CONSTANTS)).toString());
    }

    private static void constructorAndClasses() {
        Check.yes("the class is public", Modifier.isPublic(ChannelNet.class.getModifiers()));
        Check.yes("the class is final", Modifier.isFinal(ChannelNet.class.getModifiers()));
        Constructor<?>[] all = ChannelNet.class.getDeclaredConstructors();
        Check.same("constructors", all.length, 1);
        Check.yes("the constructor is public", Modifier.isPublic(all[0].getModifiers()));
        Check.same("parameters of the constructor", all[0].getParameterCount(), 0);
        for (Class<?> inside : ChannelNet.class.getDeclaredClasses()) {
            Check.yes(inside + " is static", Modifier.isStatic(inside.getModifiers()));
            Check.no(inside + " is public", Modifier.isPublic(inside.getModifiers()));
        }
    }
}
