import java.lang.reflect.Constructor;
import java.lang.reflect.Field;
import java.lang.reflect.Method;
import java.lang.reflect.Modifier;
import java.util.Set;
import java.util.TreeSet;

/** The public face: every member of the document, and no other that isn't private. */
public final class FaceTest {
    private static final String[] FACE = {
        "int feed(int,int,int,int,int)", "int end(int)", "int hills()", "int fault(int)", "int cliff(int,int)",
        "int man(int,int)", "int leads(int,int)", "int say(int,int)", "int unsay(int)", "int said(int,int)",
        "int call(int)", "int noon()", "int sweep(int)", "boolean undo()", "boolean redo()", "int echo(int,int)",
        "int answers(int,int)", "int binds(int)", "int pardon(int)", "int pardons(int,int)", "int ahead(int,int,int)",
        "int yeas(int,int)", "int clears(int,int)", "int rhyme(int)", "int joined(int,int)", "int luck(int)",
        "int winds(int)", "int more(int)", "int way(int)", "int lies(int)", "int sound(int,int,int)",
        "boolean untell(int)", "int later(int)", "int stood(int,int)", "int ask(int,int)", "int image(int)",
        "int back(int)", "int about(int)"};

    public static void main(String[] args) {
        Due due = new Due();
        Set<String> open = new TreeSet<>();
        Set<String> names = new TreeSet<>();
        for (Method m : CliffJudges.class.getDeclaredMethods()) {
            if (!Modifier.isPrivate(m.getModifiers()) && !m.isSynthetic()) {
                due.yes(m.getName() + " is public", Modifier.isPublic(m.getModifiers()));
                due.no(m.getName() + " is static", Modifier.isStatic(m.getModifiers()));
                open.add(signature(m));
                names.add(m.getName());
            }
        }
        due.yes("the methods are those of the document: " + open, open.equals(Set.of(FACE)));
        for (Method m : CliffJudges.class.getDeclaredMethods()) {
            if (Modifier.isPrivate(m.getModifiers())) {
                due.no("private " + m.getName() + " has a public one's name", names.contains(m.getName()));
            }
        }
        for (Field f : CliffJudges.class.getDeclaredFields()) {
            boolean isNone = f.getName().equals("NONE");
            due.same(f.getName() + " is open", Modifier.isPrivate(f.getModifiers()) ? 0 : 1, isNone ? 1 : 0);
        }
        due.same("NONE", CliffJudges.NONE, -1);
        due.yes("final", Modifier.isFinal(CliffJudges.class.getModifiers()));
        Constructor<?>[] made = CliffJudges.class.getDeclaredConstructors();
        due.same("constructors", made.length, 1);
        due.same("its parameters", made[0].getParameterCount(), 0);
        for (Class<?> inside : CliffJudges.class.getDeclaredClasses()) {
            due.yes(inside.getName() + " is static", Modifier.isStatic(inside.getModifiers()));
            due.no(inside.getName() + " is public", Modifier.isPublic(inside.getModifiers()));
        }
        due.close();
    }

    private static String signature(Method m) {
        StringBuilder all = new StringBuilder();
        for (Class<?> c : m.getParameterTypes()) {
            all.append(all.length() == 0 ? "" : ",").append(c.getName());
        }
        return m.getReturnType().getName() + " " + m.getName() + "(" + all + ")";
    }
}
