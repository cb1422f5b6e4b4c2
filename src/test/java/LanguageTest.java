import java.nio.file.Files;
import java.nio.file.Path;
import java.util.regex.Matcher;
import java.util.regex.Pattern;

/** The rules of LANGUAGE.md that can be seen in the text of the class. */
public final class LanguageTest {
    private static final String[] FORBIDDEN = {
        "\\b(throw|throws|try|catch|finally|synchronized|assert|volatile|native|import|package)\\b",
        "->", "::", "\\b(equals|hashCode|toString)\\b", "\\bstatic\\s*\\{",
        "\\b(protected|var|Object|Thread|Random)\\b", "\\w*Exact\\b", "System\\.(?!arraycopy)", "@\\w+"};

    public static void main(String[] args) throws Exception {
        Due due = new Due();
        String source = Files.readString(Path.of("src/main/java/LentYouths.java"));
        String code = source.replaceAll("(?s)/\\*.*?\\*/", "").replaceAll("//[^\n]*", "");
        for (String rule : FORBIDDEN) {
            Matcher found = Pattern.compile(rule).matcher(code);
            boolean breaks = found.find();
            due.isTrue("without " + rule + (breaks ? ", but there is " + found.group() : ""), !breaks);
        }
        int classes = 0;
        Matcher each = Pattern.compile("\\b(class|interface|enum|record) [A-Z]").matcher(code);
        while (each.find()) {
            classes++;
        }
        due.isTrue("at most twelve classes", classes <= 12);
        Matcher heads = Pattern.compile("(?m)^ +(?:\\w+(?:\\[\\])? )+\\w+\\(([^)]*)\\) \\{").matcher(code);
        while (heads.find()) {
            due.isTrue(heads.group() + " has at most seven parameters", heads.group(1).split(",").length <= 7);
        }
        due.finish();
    }
}
