import java.lang.reflect.Field;
import java.lang.reflect.Method;
import java.lang.reflect.Modifier;
import java.util.Arrays;
import java.util.NoSuchElementException;
import java.util.Set;
import java.util.TreeSet;

/** The class has the document's face and nothing else that can be seen from outside. */
public final class FaceTest {
    private static final String FACE = "int feed(int,int,int,int,int)|boolean end(int)|int field()|int fault()|int find(int,int)"
        + "|int person(int,int)|int cell(int,int,int)|int now(int)|int dig(int,int,int)|int tell(int)|int sell(int)"
        + "|int lay(int,int,int)|int give(int,int)|int plough(int)|int nights(int,int)|int undo()|long belief(int,int)|int reading()"
        + "|long sure(int,int)|int asks()|long gains(int,int)|int best(int)|int route(int,int,int)|int routeAt(int)|int spread()"
        + "|int doubt(int,int,int,int)|int fears()|int fear(int,int)|int pots()|int early()|int parts()|int parted()|int label(int)"
        + "|int byteAt(int)|int odds(int,int,int)|int book(int)|int told(int)|int sentence()|int said(int)|boolean image(int)"
        + "|boolean restore(int)|int count(int)";
    private static final Set<String> THROWING = Set.of("find", "belief", "sure", "gains");

    private FaceTest() {
    }

    public static void main(String[] args) {
        Set<String> due = new TreeSet<>(Arrays.asList(FACE.split("\\|")));
        Set<String> names = new TreeSet<>();
        Set<String> got = new TreeSet<>();
        for (Method m : HiddenOrLost.class.getDeclaredMethods()) {
            if (!Modifier.isPrivate(m.getModifiers()) && !m.isSynthetic()) {
                got.add(shape(m));
                names.add(m.getName());
                Check.same(m.getName() + " is public and no other's", Modifier.isPublic(m.getModifiers()) && !Modifier.isStatic(m.getModifiers()), true);
                boolean isThrowing = Arrays.equals(m.getExceptionTypes(), new Class<?>[] {NoSuchElementException.class});
                Check.same(m.getName() + " tells that it throws", isThrowing, THROWING.contains(m.getName()));
            }
        }
        Check.same("the face", String.join(" ", got), String.join(" ", due));
        String told = Doc.face();
        if (!told.isEmpty()) {
            Check.same("the face that the document tells", told, lines(due));
        }
        int visible = 0;
        for (Field f : HiddenOrLost.class.getDeclaredFields()) {
            visible += Modifier.isPrivate(f.getModifiers()) ? 0 : 1;
        }
        Check.same("fields that can be seen", visible, 1);
        Check.same("constructors", HiddenOrLost.class.getDeclaredConstructors().length, 1);
        Check.same("NONE", HiddenOrLost.NONE, -1);
        Check.same("final", Modifier.isFinal(HiddenOrLost.class.getModifiers()), true);
        Check.same("classes, the outer one too", HiddenOrLost.class.getDeclaredClasses().length + 1 <= 12, true);
        for (Class<?> inside : HiddenOrLost.class.getDeclaredClasses()) {
            checkInside(inside, names);
        }
        for (Method m : HiddenOrLost.class.getDeclaredMethods()) {
            Check.same("private " + m.getName(), Modifier.isPrivate(m.getModifiers()) && names.contains(m.getName()), false);
        }
        Check.close();
    }

    /** As the document's lines are told by Doc.face(). */
    private static String lines(Set<String> due) {
        Set<String> lines = new TreeSet<>();
        for (String shape : due) {
            String name = shape.substring(shape.indexOf(' ') + 1, shape.indexOf('('));
            lines.add(shape + (THROWING.contains(name) ? " throws NoSuchElementException" : ""));
        }
        return String.join(" ", lines);
    }

    private static String shape(Method m) {
        StringBuilder text = new StringBuilder(m.getReturnType() + " " + m.getName() + "(");
        for (int i = 0; i < m.getParameterCount(); i++) {
            text.append(i > 0 ? "," : "").append(m.getParameterTypes()[i]);
        }
        return text.append(")").toString();
    }

    private static void checkInside(Class<?> inside, Set<String> names) {
        Check.same(inside.getName() + " static", Modifier.isStatic(inside.getModifiers()), true);
        Check.same(inside.getName() + " not public", Modifier.isPublic(inside.getModifiers()), false);
        for (Method m : inside.getDeclaredMethods()) {
            Check.same(inside.getName() + "." + m.getName() + " bears a name of the face", names.contains(m.getName()), false);
            Check.same(inside.getName() + "." + m.getName() + " parameters", m.getParameterCount() <= 7, true);
        }
        for (Field f : inside.getDeclaredFields()) {
            boolean changes = Modifier.isStatic(f.getModifiers()) && !Modifier.isFinal(f.getModifiers());
            Check.same(inside.getName() + "." + f.getName() + " static and not final", changes, false);
        }
    }
}
