import java.lang.reflect.Field;
import java.lang.reflect.Method;
import java.lang.reflect.Modifier;
import java.util.Arrays;
import java.util.Set;
import java.util.TreeSet;

/** The public face of the document, and rule 1 of LANGUAGE.md: no other member is seen from outside. */
public final class FaceTest {
    private static final Check c = new Check("FaceTest");
    private static final String[] FACE = {"swimmer(int,int)", "swimmers(int,int,int)", "mend(int,int,int)", "of(int,int)", "feed(int)",
        "law()", "loses(int,int,int)", "routine(int,int)", "off(int,int,int)", "apart(int,int,int)", "gone(int,int)", "least(int,int)",
        "gasps(int,int)", "looks(int,int)", "whose(int,int)", "first(int,int)", "slip(int,int,int)", "line(int,int)", "lift(int)",
        "star(int)", "judge(int)", "whoLed(int)", "later(int,int)", "quicker(int,int)", "drawn(int,int,int,int)", "swim(int)", "led(int)",
        "image()", "back()", "undo()", "redo()", "body(int)", "act(int,int,int)", "trace(int)", "keep(int,int)", "row(int,int,int)",
        "put(int,int,long)", "element(int,int)", "shift(int,int,int,int,int)", "taken(int,int)", "count(int)"};

    private FaceTest() {
    }

    public static void main(String[] args) {
        constants();
        methods();
        nothingElse();
        c.end();
    }

    private static void constants() {
        c.due("BAD", EightLegs.BAD, -1);
        c.due("NOT", EightLegs.NOT, -2);
        c.due("FULL", EightLegs.FULL, -3);
        c.due("STATE", EightLegs.STATE, -5);
        c.due("VOID", EightLegs.VOID, -2000000000);
    }

    private static String told(Method m) {
        StringBuilder text = new StringBuilder(m.getName()).append('(');
        for (Class<?> type : m.getParameterTypes()) {
            text.append(text.charAt(text.length() - 1) == '(' ? "" : ",").append(type.getName());
        }
        return text.append(')').toString();
    }

    private static void methods() {
        Set<String> seen = new TreeSet<>();
        Set<String> names = new TreeSet<>();
        for (Method m : EightLegs.class.getDeclaredMethods()) {
            if (Modifier.isPublic(m.getModifiers())) {
                seen.add(told(m));
                names.add(m.getName());
                boolean is = m.getReturnType() == (m.getName().equals("element") ? long.class : int.class);
                c.due("the answer of " + m.getName(), is && !Modifier.isStatic(m.getModifiers()) ? 1 : 0, 1);
            }
        }
        c.due("the document's methods " + seen, seen.equals(new TreeSet<>(Arrays.asList(FACE))) ? 1 : 0, 1);
        for (Method m : EightLegs.class.getDeclaredMethods()) {
            boolean hidden = Modifier.isPrivate(m.getModifiers()) && !names.contains(m.getName());
            c.due("hidden, under another name: " + m, hidden || Modifier.isPublic(m.getModifiers()) ? 1 : 0, 1);
        }
    }

    private static void nothingElse() {
        int type = EightLegs.class.getModifiers();
        c.due("public and final", Modifier.isPublic(type) && Modifier.isFinal(type) ? 1 : 0, 1);
        c.due("one constructor", EightLegs.class.getDeclaredConstructors().length, 1);
        c.due("a public one", EightLegs.class.getConstructors().length, 1);
        int constants = 0;
        for (Field f : EightLegs.class.getDeclaredFields()) {
            if (Modifier.isPublic(f.getModifiers())) {
                constants++;
            } else {
                c.due("private: " + f, Modifier.isPrivate(f.getModifiers()) ? 1 : 0, 1);
            }
            c.due("no static state: " + f, !Modifier.isStatic(f.getModifiers()) || Modifier.isFinal(f.getModifiers()) ? 1 : 0, 1);
        }
        c.due("the five constants", constants, 5);
        for (Class<?> inside : EightLegs.class.getDeclaredClasses()) {
            c.due("static: " + inside, Modifier.isStatic(inside.getModifiers()) ? 1 : 0, 1);
            c.due("not seen: " + inside, Modifier.isPublic(inside.getModifiers()) || Modifier.isProtected(inside.getModifiers()) ? 1 : 0, 0);
        }
    }
}
