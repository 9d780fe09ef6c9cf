import java.lang.reflect.Constructor;
import java.lang.reflect.Field;
import java.lang.reflect.Method;
import java.lang.reflect.Modifier;
import java.nio.file.Files;
import java.nio.file.Path;
import java.util.ArrayList;
import java.util.List;
import java.util.Set;
import java.util.TreeSet;
import java.util.regex.Matcher;
import java.util.regex.Pattern;

/** The rules of LANGUAGE.md that can be read off the text of the class, or off its members. */
public final class LanguageTest {
    private static final int CLASSES = 12;
    private static final int FIELDS = 20;
    private static final int PARAMETERS = 7;
    private static final int LINES = 60;
    private static final String[] FORBIDDEN = {
        "->", "::", "\\btry\\b", "\\bfinally\\b", "\\bsynchronized\\b", "\\bassert\\b", "\\bpackage\\b",
        "\\bprotected\\b", "\\bstatic\\s*\\{", "\\bObject\\b", "Exact\\(", "\\bMath\\.random\\b", "\\bSystem\\.(?!arraycopy)",
        "\\[\\]\\s*\\[\\]\\s*\\[\\]", "[^\\x00-\\xff]", "for \\([^;)]*:", "\\bequals\\b", "\\bhashCode\\b", "\\btoString\\b",
        "\"\"\\s*\\+", "\\+\\s*\"\"", "\\bwhile \\(true\\)", "for \\(;;",
    };

    public static void main(String[] args) throws Exception {
        String text = Files.readString(Path.of("src/main/java/ChannelNet.java"));
        String code = text.replaceAll("(?s)/\\*.*?\\*/", "").replaceAll("//[^\n]*", "").replaceAll("\"[^\"\n]*\"", "\"\"");
        words(code);
        lengths(code);
        members();
        Check.end();
    }

    private static void words(String code) {
        for (String rule : FORBIDDEN) {
            Check.no("the class holds " + rule, Pattern.compile(rule).matcher(code).find());
        }
        all(code, "import ([^;]*);", "java\\.util\\.(ArrayList|List|Arrays|Iterator)");
        all(code, "throw new (\\w+)\\(\"?\"?\\);", "(IndexOutOfBounds|IllegalArgument|IllegalState)Exception");
        Check.same("throws of another form", count(code, "\\bthrow\\b"), count(code, "throw new \\w+\\(\"?\"?\\);"));
    }

    private static void all(String code, String where, String what) {
        Matcher matcher = Pattern.compile(where).matcher(code);
        while (matcher.find()) {
            Check.yes(matcher.group() + " is allowed", matcher.group(1).matches(what));
        }
    }

    private static int count(String code, String what) {
        return (int) Pattern.compile(what).matcher(code).results().count();
    }

    /** A method's last line is the first one behind its head that is a brace as far to the left as the head. */
    private static void lengths(String code) {
        Matcher head = Pattern.compile("(?m)^( {4}| {8})(?!if|for|while|switch|\\})([^\\s;{}(=][^;{}(=]*)\\([^;{}]*\\{\n").matcher(code);
        int heads = 0;
        while (head.find()) {
            heads += head.group(2).matches("(public )?\\w+") ? 0 : 1;
            int end = code.indexOf("\n" + head.group(1) + "}\n", head.end() - 1);
            long lines = code.substring(head.start(), end).lines().count() + 1;
            Check.yes(head.group(2) + " has " + lines + " lines: that is short", end > 0 && lines <= LINES);
        }
        int methods = 0;
        for (Class<?> type : classes()) {
            methods += type.getDeclaredMethods().length;
        }
        Check.same("heads of methods", heads, methods);
    }

    private static List<Class<?>> classes() {
        List<Class<?>> all = new ArrayList<>(List.of(ChannelNet.class));
        all.addAll(List.of(ChannelNet.class.getDeclaredClasses()));
        return all;
    }

    private static void members() {
        Check.yes("at most twelve classes", classes().size() <= CLASSES);
        for (Class<?> type : classes()) {
            Check.same("classes inside one inside", type == ChannelNet.class ? 0 : type.getDeclaredClasses().length, 0);
            fields(type);
            for (Method method : type.getDeclaredMethods()) {
                Check.yes(method + ": few parameters", method.getParameterCount() <= PARAMETERS);
            }
            for (Constructor<?> constructor : type.getDeclaredConstructors()) {
                Check.yes(constructor + ": few parameters", constructor.getParameterCount() <= PARAMETERS);
            }
        }
        names();
    }

    private static void fields(Class<?> type) {
        int own = 0;
        for (Field field : type.getDeclaredFields()) {
            if (Modifier.isStatic(field.getModifiers())) {
                Check.yes(field + " is a constant", Modifier.isFinal(field.getModifiers()) && field.getType() == int.class);
            } else {
                own++;
            }
        }
        Check.yes(type + " has few fields", own <= FIELDS);
    }

    /** Methods of the classes inside are looked at, too: the rule does not leave them out. */
    private static void names() {
        Set<String> face = new TreeSet<>();
        for (Method method : ChannelNet.class.getMethods()) {
            face.add(method.getName());
        }
        for (Class<?> type : classes()) {
            for (Method method : type.getDeclaredMethods()) {
                boolean own = type != ChannelNet.class || Modifier.isPrivate(method.getModifiers());
                Check.no(method + " bears the name of a public one", own && face.contains(method.getName()));
            }
        }
    }
}
