import java.io.IOException;
import java.nio.file.Files;
import java.nio.file.Path;
import java.util.regex.Matcher;
import java.util.regex.Pattern;

/** The rules of ../shared/LANGUAGE.md that can be seen in the text of the class. */
public final class LanguageTest {
    private static final String[] FORBIDDEN = {
        "\\b(throw|throws|try|catch|synchronized|assert|import|package|native|volatile)\\b", // 3, 4, 6
        "->", "::",                                                                      // 2
        "\\w+Exact\\b", "\\b(hashCode|toString|equals)\\b",                              // 4, 6
        "\\b(Thread|Random|System\\.(?!arraycopy)\\w+)",                                 // 13
        "static\\s*\\{",                                                                 // 5
        "\"\\s*\\+|\\+\\s*\"",                                                           // 10
        "\\[\\]\\s*\\[\\]\\s*\\[\\]",                                                    // 3
    };
    private static final int LONGEST_METHOD = 60;
    private static final int MOST_CLASSES = 12;

    public static void main(String[] args) throws IOException {
        String source = withoutComments(Files.readString(Path.of("src/main/java/OpenFields.java")));
        for (String words : FORBIDDEN) {
            Matcher found = Pattern.compile(words).matcher(source);
            Check.that("no " + words, !found.find());
        }
        Check.that("classes", count(source, "\\b(class|record|enum|interface)\\s+\\w+") <= MOST_CLASSES);
        Check.is("inner classes are static", count(source, "(?<!static final )\\bclass\\s+\\w+"),
            count(source, "public final class"));
        methodsAreShort(source);
        Check.end();
    }

    private static String withoutComments(String source) {
        return source.replaceAll("(?s)/\\*.*?\\*/", "").replaceAll("//.*", "");
    }

    private static int count(String source, String words) {
        return (int) Pattern.compile(words).matcher(source).results().count();
    }

    private static void methodsAreShort(String source) {
        int length = 0;
        String method = "";
        for (String line : source.split("\n")) {
            if (line.matches(" {4}( {4})?[\\w\\[\\] ]+\\([\\w\\[\\], ]*\\) \\{")) {
                method = line.trim();
                length = 0;
            }
            length++;
            if (line.matches(" {4}( {4})?\\}") && !method.isEmpty()) {
                Check.that(method + " is short", length <= LONGEST_METHOD);
                method = "";
            }
        }
    }
}
