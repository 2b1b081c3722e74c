import java.io.IOException;
import java.nio.file.Files;
import java.nio.file.Path;
import java.util.regex.Matcher;
import java.util.regex.Pattern;

/** Those of the rules of ../shared/LANGUAGE.md that the text of the program itself can break; its path is the argument. */
final class RulesTest {
    private static final Checks CHECKS = new Checks("RulesTest");
    private static final String[] NOT_ALLOWED = {
        "\\b(throw|throws|try|catch|finally|synchronized|assert|import|package|native|volatile|transient)\\b",
        "\\b(equals|hashCode|toString|getClass|Thread|Object|Random|System\\.(?!arraycopy\\())",
        "\\b\\w+Exact\\b", "->", "::", "\\bprotected\\b",
        "\\bstatic\\s+(?!final\\b)(?!class\\b)[\\w\\[\\]]+\\s+\\w+\\s*[=;]", "\\bstatic\\s*\\{",
        "\\b(double|float|StringBuilder|ArrayList|List|Iterator)\\b",
    };

    public static void main(String[] args) throws IOException {
        String source = Files.readString(Path.of(args[0]));
        String code = source.replaceAll("(?s)/\\*.*?\\*/", "").replaceAll("//[^\n]*", "");
        for (String pattern : NOT_ALLOWED) {
            Matcher matcher = Pattern.compile(pattern).matcher(code);
            boolean found = matcher.find();
            CHECKS.due("what is not allowed" + (found ? ": " + matcher.group() : ""), found ? 1 : 0, 0);
        }
        CHECKS.due("signs 1 to 127", source.chars().allMatch(sign -> sign >= 1 && sign <= 127) ? 1 : 0, 1);
        objectsAreMadeInConstructorsAlone(code);
        methodsAreShort(source);
        CHECKS.finish();
    }

    /** A call that makes nothing can't fill the room in which all calls of a run live. */
    private static void objectsAreMadeInConstructorsAlone(String code) {
        Matcher body = Pattern.compile("(?m)^( +)(?:public )?[A-Z]\\w*\\(\\) \\{\n(?s:.*?)\n\\1\\}").matcher(code);
        String rest = body.replaceAll("");
        CHECKS.due("constructors were found", rest.length() < code.length() ? 1 : 0, 1);
        CHECKS.due("no new outside of them", Pattern.compile("\\bnew\\b|\\.clone\\(").matcher(rest).find() ? 1 : 0, 0);
    }

    private static void methodsAreShort(String source) {
        int since = 0;
        int longest = 0;
        for (String line : source.split("\n")) {
            since = line.matches(" {4}( {4})?\\S.*\\(.*\\) \\{") ? 0 : since + 1;
            if (line.matches(" {4}( {4})?\\}")) {
                longest = Math.max(longest, since);
            }
        }
        CHECKS.due("methods of at most sixty lines (" + longest + ")", longest <= 60 ? 1 : 0, 1);
    }
}
