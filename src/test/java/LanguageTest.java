import java.io.IOException;
import java.nio.file.Files;
import java.nio.file.Path;
import java.util.List;
import java.util.regex.Matcher;
import java.util.regex.Pattern;

/** Looks in the source for what LANGUAGE.md rules out, as far as its words alone show it. */
public final class LanguageTest {
    private static final String[] RULED_OUT = {
        "->", "::", "\\bcatch\\b", "\\bfinally\\b", "\\bsynchronized\\b", "\\bassert\\b", "\\bpackage\\b",
        "Exact\\b", "\\bprotected\\b", "\\bvolatile\\b", "\\bnative\\b", "\\bSystem\\.(?!arraycopy\\b)",
        "\\bMath\\.(?!(min|max|abs|floorMod|floorDiv)\\()", "\\bArrays\\.(?!(fill|copyOf|copyOfRange)\\()",
        "\\b(Long|Integer)\\.(?!(compare|max|min|bitCount)\\()", "\\bimport (?!java\\.util\\.Arrays;)",
        "\\b(toString|hashCode|equals)\\(", "\\bvar\\b", "\\binstanceof\\b",
    };
    private static final int LONGEST_METHOD = 60;

    public static void main(String[] args) throws IOException {
        String source = Files.readString(Path.of("src/main/java/ArcLight.java"));
        String code = source.replaceAll("(?s)/\\*.*?\\*/", "").replaceAll("\"[^\"\n]*\"", "\"\"");
        for (String word : RULED_OUT) {
            Matcher matcher = Pattern.compile(word).matcher(code);
            Check.due("rule 4, 6 or 13 against " + word, matcher.find() ? matcher.group() : "none", "none");
        }
        Check.due("only signs 1 to 127", source.chars().allMatch(sign -> sign >= 1 && sign <= 127), true);
        checkMethods(List.of(code.split("\n")));
        Check.end("LanguageTest");
    }

    private static void checkMethods(List<String> lines) {
        int start = -1;
        String end = "";
        for (int i = 0; i < lines.size(); i++) {
            String line = lines.get(i);
            String indent = line.substring(0, line.length() - line.stripLeading().length());
            if (start < 0 && line.matches(" {4,8}(public|private|static|int|long|void|boolean|double)\\b.*\\(.*")
                    && !line.contains(";") && !line.contains("=")) {
                start = i;
                end = indent + "}";
            } else if (start >= 0 && line.equals(end)) {
                Check.due("rule 11, " + lines.get(start).strip(), i - start < LONGEST_METHOD, true);
                start = -1;
            }
        }
    }
}
