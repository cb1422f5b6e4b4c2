import java.lang.reflect.Field;
import java.lang.reflect.Method;
import java.lang.reflect.Modifier;
import java.nio.file.Files;
import java.nio.file.Path;
import java.util.ArrayList;
import java.util.HashSet;
import java.util.List;
import java.util.Set;
import java.util.regex.Matcher;
import java.util.regex.Pattern;

/** The rules of LANGUAGE.md that can be seen in the text of the class, and in the class itself. */
public final class LanguageTest {
    private static final String[] FORBIDDEN = {
        "\\b(throw|throws|try|catch|finally|synchronized|assert|volatile|native|import|package)\\b",
        "->", "::", "\\b(equals|hashCode|toString)\\b", "\\bstatic\\s*\\{",
        "\\b(protected|var|Object|Thread|Random)\\b", "\\w*Exact\\b", "System\\.(?!arraycopy)", "@\\w+",
        "\"\\s*\\+|\\+\\s*\"", "\\+=\\s*\"", "\\]\\s*\\[[^\\]]*\\]\\s*\\[",
        "\\bwhile\\s*\\(true\\)", "for\\s*\\(;;"};
    private static final Set<String> LIBRARY = Set.of("String", "StringBuilder", "Integer", "Long", "Math",
        "System", "ArrayList", "List", "Arrays", "Iterator", "Iterable", "Comparable");
    private static final Pattern HEAD =
        Pattern.compile("(?m)^( +)(?:\\w+(?:\\[\\])? )+(\\w+)\\(([^)]*)\\) \\{$");
    private static final int MOST_CLASSES = 12, MOST_FIELDS = 20, MOST_LINES = 60, MOST_PARAMETERS = 7;

    private final Due due = new Due();
    private final String code;

    private LanguageTest(String source) {
        code = source.replaceAll("(?s)/\\*.*?\\*/", "").replaceAll("//[^\n]*", "");
    }

    public static void main(String[] args) throws Exception {
        LanguageTest test = new LanguageTest(Files.readString(Path.of("src/main/java/LentYouths.java")));
        test.nothingForbidden();
        test.typesAreTold();
        test.methodsAreShort();
        test.classesAreSmall();
        test.staticFieldsAreFinal();
        test.namesAreTheirOwn();
        test.due.finish();
    }

    private void nothingForbidden() {
        for (String rule : FORBIDDEN) {
            Matcher found = Pattern.compile(rule).matcher(code);
            boolean breaks = found.find();
            due.isTrue("without " + rule + (breaks ? ", but there is " + found.group() : ""), !breaks);
        }
    }

    private void typesAreTold() {
        Set<String> own = new HashSet<>();
        Matcher each = Pattern.compile("\\b(?:class|interface|enum|record) (\\w+)").matcher(code);
        while (each.find()) {
            own.add(each.group(1));
        }
        due.isTrue("at most twelve classes", own.size() <= MOST_CLASSES);
        Matcher type = Pattern.compile("\\b[A-Z]\\w*[a-z]\\w*").matcher(code);
        while (type.find()) {
            boolean told = own.contains(type.group()) || LIBRARY.contains(type.group());
            due.isTrue(type.group() + " is a class of its own, or one told", told);
        }
    }

    private void methodsAreShort() {
        Matcher head = HEAD.matcher(code);
        int methods = 0;
        while (head.find()) {
            methods++;
            int end = code.indexOf("\n" + head.group(1) + "}", head.start());
            long lines = code.substring(head.start(), Math.max(end, head.start())).lines().count() + 1;
            due.isTrue(head.group(2) + " has " + lines + " lines", end > 0 && lines <= MOST_LINES);
            int parameters = head.group(3).split(",").length;
            due.isTrue(head.group(2) + " has at most seven parameters", parameters <= MOST_PARAMETERS);
        }
        due.isTrue("methods are found", methods > 50);
    }

    private static List<Class<?>> classes() {
        List<Class<?>> all = new ArrayList<>(List.of(LentYouths.class.getDeclaredClasses()));
        all.add(LentYouths.class);
        return all;
    }

    private void classesAreSmall() {
        for (Class<?> each : classes()) {
            int fields = 0;
            for (Field field : each.getDeclaredFields()) {
                fields += Modifier.isStatic(field.getModifiers()) ? 0 : 1;
            }
            due.isTrue(each + " has at most twenty fields", fields <= MOST_FIELDS);
        }
    }

    private void staticFieldsAreFinal() {
        for (Class<?> each : classes()) {
            for (Field field : each.getDeclaredFields()) {
                int is = field.getModifiers();
                due.isTrue(field + " is final, if static", Modifier.isFinal(is) || !Modifier.isStatic(is));
            }
        }
    }

    /** No method that is not of the face bears the name of one that is, in any class of the file. */
    private void namesAreTheirOwn() {
        Set<String> face = new HashSet<>();
        for (Method method : LentYouths.class.getDeclaredMethods()) {
            if (Modifier.isPublic(method.getModifiers())) {
                face.add(method.getName());
            }
        }
        for (Class<?> each : classes()) {
            for (Method method : each.getDeclaredMethods()) {
                boolean ofFace = Modifier.isPublic(method.getModifiers()) && each == LentYouths.class;
                due.isTrue(method + " has a name of its own", ofFace || !face.contains(method.getName()));
            }
        }
    }
}
