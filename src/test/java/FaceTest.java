import java.lang.reflect.Constructor;
import java.lang.reflect.Field;
import java.lang.reflect.Method;
import java.lang.reflect.Modifier;
import java.util.Arrays;
import java.util.Set;
import java.util.TreeSet;

/** The class has the document's face, whole, and nothing else that can be seen. */
public final class FaceTest {
    private static final String[] FACE = {
        "int year(int)", "int store(int,int)", "int family(int,int,int)", "int job(int,int)", "int type(int)",
        "int clear()", "int read()", "int pass(int)", "int undo()", "int about(int,int)", "int eats(int,int)",
        "int fields()", "int plan(int,int)", "int want(int)", "int held(int)", "int chance(int,int)",
        "int teachers(int)", "int debt(int,int,int)", "int rate(int)", "int net(int)", "int cleared()",
        "int report(int,int,int)", "int liars(int)", "int none(int)", "int lots(int,int)",
        "int word(int,int,int,int,int,int)", "int toldOn(int,int,int)", "int apart(int,int)", "int bears()",
        "int meant(int,int,int,int,int,int)", "int meet(int,int)", "long part(int)", "int image(int)",
        "int from(int)", "int status(int)", "int count(int)", "long digest()"};

    public static void main(String[] args) {
        Due due = new Due("FaceTest");
        due.is("NONE", LongYear.NONE, -1);
        due.is("BAD", LongYear.BAD, -2);
        due.is("NO", LongYear.NO, -3);
        due.is("FULL", LongYear.FULL, -4);
        due.holds("public and final", LongYear.class.getModifiers() == (Modifier.PUBLIC | Modifier.FINAL));

        Set<String> told = new TreeSet<>(Arrays.asList(FACE));
        Set<String> there = new TreeSet<>();
        Set<String> names = new TreeSet<>();
        for (Method m : LongYear.class.getDeclaredMethods()) {
            if (Modifier.isPrivate(m.getModifiers())) continue;
            due.holds(m + " is public and no more", m.getModifiers() == Modifier.PUBLIC);
            there.add(shape(m));
            names.add(m.getName());
        }
        due.holds("the methods are " + there, there.equals(told));
        for (Method m : LongYear.class.getDeclaredMethods()) {
            if (Modifier.isPrivate(m.getModifiers())) due.holds(m + " has its own name", !names.contains(m.getName()));
        }

        Constructor<?>[] makers = LongYear.class.getDeclaredConstructors();
        due.is("constructors", makers.length, 1);
        due.holds("one without arguments", makers[0].getParameterCount() == 0
            && makers[0].getModifiers() == Modifier.PUBLIC);
        for (Field f : LongYear.class.getDeclaredFields()) checkField(due, f);
        for (Class<?> c : LongYear.class.getDeclaredClasses()) checkInside(due, c, names);
        due.end();
    }

    private static String shape(Method m) {
        StringBuilder text = new StringBuilder(m.getReturnType() + " " + m.getName() + "(");
        for (Class<?> p : m.getParameterTypes()) {
            if (text.charAt(text.length() - 1) != '(') text.append(',');
            text.append(p);
        }
        return text.append(')').toString();
    }

    private static void checkField(Due due, Field f) {
        boolean constant = Set.of("NONE", "BAD", "NO", "FULL").contains(f.getName());
        int open = Modifier.PUBLIC | Modifier.STATIC | Modifier.FINAL;
        if (constant) due.holds(f + " is a public constant", f.getModifiers() == open);
        else due.holds(f + " is private", Modifier.isPrivate(f.getModifiers()));
        if (Modifier.isStatic(f.getModifiers())) due.holds(f + " is final", Modifier.isFinal(f.getModifiers()));
    }

    private static void checkInside(Due due, Class<?> c, Set<String> names) {
        int m = c.getModifiers();
        due.holds(c + " is static", Modifier.isStatic(m));
        due.holds(c + " is not open", !Modifier.isPublic(m) && !Modifier.isProtected(m));
        for (Method one : c.getDeclaredMethods()) {
            due.holds(one + " has its own name", !names.contains(one.getName()));
        }
        int fields = 0;
        for (Field f : c.getDeclaredFields()) {
            if (Modifier.isStatic(f.getModifiers())) due.holds(f + " is final", Modifier.isFinal(f.getModifiers()));
            else fields++;
        }
        due.holds(c + " has at most twenty fields", fields <= 20);
    }
}
