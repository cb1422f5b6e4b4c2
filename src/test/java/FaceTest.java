import java.lang.reflect.Constructor;
import java.lang.reflect.Field;
import java.lang.reflect.Method;
import java.lang.reflect.Modifier;
import java.util.Arrays;
import java.util.Set;
import java.util.TreeSet;

/** The face of the class: what the document tells, and nothing else that is not private. */
public final class FaceTest {
    private static final String[] CALLS = {
        "int counter(int,int,int,int)", "int ofPerson(int,int)", "int live(int,int)", "int want(int,int)",
        "int loans(int,int,int,int,int)", "int fewest(int,int)", "int match(int)", "int help(int)",
        "int reading(int,int,boolean)", "int back(int)", "int told(int,int,int,int,int,int)",
        "int kinds(int,int,int,int,int)", "int wears(int,int,int,int,int)",
        "long odds(int,int,int,int,int,int)", "int sheet(int,int,int)", "int lose(int)",
        "int put(int,int,int)", "long cell(int,int,int)", "int copy(int,int,int,int,int)",
        "int tell(int)", "int hand(int)", "int as(int,int)", "int trace()", "int fault()", "int many(int)"};
    private static final String[] CONSTANTS = {"UNKNOWN", "OUTSIDE", "STATE", "FULL", "NONE", "LOST"};

    public static void main(String[] args) {
        Due due = new Due();
        Set<String> calls = new TreeSet<>();
        Set<String> names = new TreeSet<>();
        for (Method m : LentYouths.class.getDeclaredMethods()) {
            if (!Modifier.isPrivate(m.getModifiers())) {
                due.isTrue(m.getName() + " is public", Modifier.isPublic(m.getModifiers()));
                due.isTrue(m.getName() + " is no static", !Modifier.isStatic(m.getModifiers()));
                calls.add(told(m));
                names.add(m.getName());
            }
        }
        due.isTrue("the calls are those told: " + calls, calls.equals(new TreeSet<>(Arrays.asList(CALLS))));
        for (Method m : LentYouths.class.getDeclaredMethods()) {
            if (Modifier.isPrivate(m.getModifiers())) {
                due.isTrue("private " + m.getName() + " has a name of its own", !names.contains(m.getName()));
            }
        }
        Set<String> constants = new TreeSet<>();
        for (Field f : LentYouths.class.getDeclaredFields()) {
            if (Modifier.isStatic(f.getModifiers())) {
                due.isTrue(f.getName() + " is final", Modifier.isFinal(f.getModifiers()));
            }
            if (!Modifier.isPrivate(f.getModifiers())) {
                constants.add(f.getName());
            }
        }
        due.isTrue("the constants are those told: " + constants,
            constants.equals(new TreeSet<>(Arrays.asList(CONSTANTS))));
        due.is("UNKNOWN", LentYouths.UNKNOWN, -1);
        due.is("OUTSIDE", LentYouths.OUTSIDE, -2);
        due.is("STATE", LentYouths.STATE, -3);
        due.is("FULL", LentYouths.FULL, -4);
        due.is("NONE", LentYouths.NONE, -9);
        due.is("LOST", LentYouths.LOST, -9223372036854775808L);
        Constructor<?>[] constructors = LentYouths.class.getDeclaredConstructors();
        due.is("constructors", constructors.length, 1);
        due.is("parameters", constructors[0].getParameterCount(), 0);
        due.isTrue("the class is final", Modifier.isFinal(LentYouths.class.getModifiers()));
        for (Class<?> inside : LentYouths.class.getDeclaredClasses()) {
            due.isTrue(inside + " is static", Modifier.isStatic(inside.getModifiers()));
            due.isTrue(inside + " is not public", !Modifier.isPublic(inside.getModifiers()));
        }
        due.finish();
    }

    private static String told(Method m) {
        StringBuilder s = new StringBuilder(m.getReturnType().getName());
        s.append(' ').append(m.getName()).append('(');
        for (Class<?> c : m.getParameterTypes()) {
            s.append(s.charAt(s.length() - 1) == '(' ? "" : ",").append(c.getName());
        }
        return s.append(')').toString();
    }
}
