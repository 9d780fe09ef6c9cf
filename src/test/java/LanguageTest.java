import java.nio.file.Files;
import java.nio.file.Path;
import java.util.regex.Matcher;
import java.util.regex.Pattern;

/** Some rules of LANGUAGE.md that can be read off the text of the class. */
public final class LanguageTest {
    private static final String[] FORBIDDEN = {
        "->", "::", "\\btry\\b", "\\bfinally\\b", "\\bsynchronized\\b", "\\bassert\\b", "\\bpackage\\b",
        "\\bprotected\\b", "\\bstatic\\s*\\{", "\\bObject\\b", "Exact\\(", "\\bMath\\.random\\b", "\\bSystem\\.(?!arraycopy)",
        "\\[\\]\\s*\\[\\]\\s*\\[\\]", "[^\\x00-\\xff]",
    };

    public static void main(String[] args) throws Exception {
        String text = Files.readString(Path.of("src/main/java/ChannelNet.java"));
        String code = text.replaceAll("(?s)/\\*.*?\\*/", "").replaceAll("//[^\n]*", "").replaceAll("\"[^\"\n]*\"", "\"\"");
        for (String rule : FORBIDDEN) {
            Check.no("the class holds " + rule, Pattern.compile(rule).matcher(code).find());
        }
        all(code, "import ([^;]*);", "java\\.util\\.(ArrayList|List|Arrays|Iterator)");
        all(code, "throw new (\\w+)\\(\"?\"?\\);", "(IndexOutOfBounds|IllegalArgument|IllegalState)Exception");
        Check.same("throws of another form", count(code, "\\bthrow\\b"), count(code, "throw new \\w+\\(\"?\"?\\);"));
        Check.yes("at most twelve classes", count(code, "\\b(class|record|enum|interface) \\w+") <= 12);
        Check.end();
    }

    private static void all(String code, String where, String what) {
        Matcher matcher = Pattern.compile(where).matcher(code);
        while (matcher.find()) {
            Check.yes(matcher.group() + " is allowed", matcher.group(1).matches(what));
        }
    }

    private static int count(String code, String what) {
        Matcher matcher = Pattern.compile(what).matcher(code);
        int count = 0;
        while (matcher.find()) {
            count++;
        }
        return count;
    }
}
