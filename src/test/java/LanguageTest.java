import java.io.IOException;
import java.nio.file.Files;
import java.nio.file.Path;
import java.util.regex.Matcher;
import java.util.regex.Pattern;

/** Those rules of LANGUAGE.md, and the rule of the one room, that can be seen in the text. */
public final class LanguageTest {
    public static void main(String[] args) throws IOException {
        String source = Files.readString(Path.of("src/main/java/TrajectoryRails.java"));
        String code = source.replaceAll("(?s)/\\*.*?\\*/", "").replaceAll("//[^\n]*", "");
        none(code, "\\b(throw|throws|try|catch|synchronized|assert|instanceof|package|import|native)\\b");
        none(code, "->|::|@|System|Object|Thread|String\\[|\\bvar\\b");
        none(code, "protected|static \\{");
        // A row is made with its object; a call makes nothing.
        String body = code.replaceFirst("(?s)public TrajectoryRails\\(\\) \\{.*?\n    \\}", "");
        none(body.replaceAll("final [\\w\\[\\]]+ \\w+ = new [^\n]*;", ""), "\\bnew\\b");
        String face = "feed|end|circuit|assertion|fails|excluded|failing|shortfall|value|matters|cone|count";
        none(code.replaceAll("public int (" + face + ")\\(", ""), "\\b(int|long|boolean|void) (" + face + ")\\(");
        Matcher publics = Pattern.compile("\\bpublic\\b").matcher(code);
        Rig.due("public members", (int) publics.results().count(), 15);
        Rig.finish();
    }

    private static void none(String code, String pattern) {
        Matcher found = Pattern.compile(pattern).matcher(code);
        boolean has = found.find();
        Rig.due(has ? "found " + found.group() : pattern, has ? 1 : 0, 0);
    }
}
