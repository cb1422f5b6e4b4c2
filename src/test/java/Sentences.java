import java.io.IOException;
import java.lang.reflect.InvocationTargetException;
import java.lang.reflect.Method;
import java.nio.file.Files;
import java.nio.file.Path;
import java.util.Arrays;
import java.util.HashSet;
import java.util.Map;
import java.util.Set;
import java.util.TreeMap;

/** The document, by its places, and the tests that each hold one of its sentences. */
final class Sentences {
    private final Map<String, String> places = new TreeMap<>();
    private final Map<String, boolean[]> held = new TreeMap<>();
    private final Set<String> met = new HashSet<>();
    private final Due due;

    Sentences(Path document, Due due) throws IOException {
        this.due = due;
        String place = "";
        for (String line : Files.readAllLines(document)) {
            place = placeFrom(line, place);
            places.merge(place, textOf(line), (before, more) -> (before + " " + more).strip());
        }
        for (Map.Entry<String, String> each : places.entrySet()) {
            held.put(each.getKey(), new boolean[each.getValue().length()]);
        }
    }

    private static String placeFrom(String line, String before) {
        if (line.startsWith("## ")) {
            return line.substring(3).split(":")[0];
        }
        return line.startsWith("==== ") ? "Terms " + line.charAt(5) : before;
    }

    /** What a line says, without what only marks its place or tells the face again. */
    private static String textOf(String line) {
        if (line.startsWith("## ") || line.startsWith("```") || line.startsWith("Ahead of the calls")) {
            return "";
        }
        return line.replaceFirst("^==== [0-9] ", "").replaceFirst("^`[^`]*`: ", "").strip();
    }

    /** Runs the tests of a class: how many sentences they hold. */
    int run(Class<?> tests) throws IllegalAccessException {
        int count = 0;
        for (Method test : tests.getDeclaredMethods()) {
            Holds holds = test.getAnnotation(Holds.class);
            if (holds != null) {
                run(test, holds);
                count++;
            }
        }
        return count;
    }

    private void run(Method test, Holds holds) throws IllegalAccessException {
        String heading = holds.where() + ", \"" + holds.says() + "\": ";
        due.under(heading);
        due.isTrue("the document says so", markHeld(holds.where(), holds.says()));
        due.isTrue("no other test holds it", met.add(heading));
        int before = due.looks();
        try {
            test.invoke(null, due);
        } catch (InvocationTargetException e) {
            due.isTrue(test.getName() + " threw " + e.getCause(), false);
        }
        due.isTrue(test.getName() + " looks at an answer", due.looks() > before);
    }

    private boolean markHeld(String where, String says) {
        String text = places.getOrDefault(where, "");
        boolean[] marks = held.getOrDefault(where, new boolean[0]);
        boolean found = false;
        for (int at = text.indexOf(says); at >= 0; at = text.indexOf(says, at + 1)) {
            Arrays.fill(marks, at, at + says.length(), true);
            found = true;
        }
        return found;
    }

    /** That no words of the terms and the promises are left without a test. */
    void noneIsLeftOut() {
        int promises = 0;
        for (String place : places.keySet()) {
            if (place.startsWith("Terms") || place.startsWith("Promise ")) {
                due.under(place + ": ");
                due.isTrue("no test holds: " + leftOut(place), leftOut(place).isEmpty());
                promises += place.startsWith("Promise ") ? 1 : 0;
            }
        }
        due.under("");
        due.is("promises", promises, 26);
    }

    private String leftOut(String where) {
        StringBuilder words = new StringBuilder();
        String text = places.get(where);
        for (int at = 0; at < text.length(); at++) {
            words.append(held.get(where)[at] ? ' ' : text.charAt(at));
        }
        boolean hasWords = words.chars().anyMatch(Character::isLetterOrDigit);
        return hasWords ? words.toString().replaceAll("\\s+", " ") : "";
    }
}
