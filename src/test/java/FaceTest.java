import java.lang.reflect.Field;
import java.lang.reflect.Method;
import java.lang.reflect.Modifier;
import java.util.Arrays;
import java.util.Set;
import java.util.TreeSet;

/** The public face is the document's, and no member beside it can be seen from outside. */
public final class FaceTest {
    private static final String[] METHODS = {
        "int reader(int, int)", "int card(int, int)", "int whose(int)", "int lost(int, int)",
        "int block(int, int, long)", "int blocked(int, long)", "int consent(int, boolean, long)",
        "int keeps(int, int)", "int loan(int, int, long, long)", "int kept(int, int, long)",
        "int anonymise(long)", "int join(int, int)", "int family(int, int)", "void sign(int)",
        "int import0()", "int like()", "int about(int, int)", "int statistics(int, long, long)"};

    public static void main(String[] args) {
        Due due = new Due();
        Set<String> want = new TreeSet<>(Arrays.asList(METHODS));
        Set<String> got = new TreeSet<>();
        Set<String> publicNames = new TreeSet<>();
        for (Method method : ReaderRows.class.getDeclaredMethods()) {
            if (!Modifier.isPrivate(method.getModifiers())) {
                got.add(face(method));
                publicNames.add(method.getName());
                due.holds(method + " is public and no static one",
                    Modifier.isPublic(method.getModifiers()) && !Modifier.isStatic(method.getModifiers()));
            }
        }
        due.holds("methods " + got + " are " + want, got.equals(want));
        for (Method method : ReaderRows.class.getDeclaredMethods()) {
            due.holds("no private method bears the name " + method.getName(),
                !Modifier.isPrivate(method.getModifiers()) || !publicNames.contains(method.getName()));
        }
        checkFields(due);
        checkClasses(due, publicNames);
        due.end("FaceTest");
    }

    private static String face(Method method) {
        StringBuilder text = new StringBuilder();
        for (Class<?> type : method.getParameterTypes()) {
            text.append(text.length() == 0 ? "" : ", ").append(type.getName());
        }
        return method.getReturnType().getName() + " " + method.getName() + "(" + text + ")";
    }

    private static void checkFields(Due due) {
        for (Field field : ReaderRows.class.getDeclaredFields()) {
            boolean isNone = field.getName().equals("NONE") && field.getType() == int.class;
            int modifiers = field.getModifiers();
            due.holds(field + " is private or NONE", Modifier.isPrivate(modifiers) || isNone && Modifier.isPublic(modifiers));
            due.holds(field + " is final", Modifier.isFinal(modifiers));
        }
        due.is("NONE", ReaderRows.NONE, -1);
    }

    private static void checkClasses(Due due, Set<String> publicNames) {
        due.holds("public final class", Modifier.isPublic(ReaderRows.class.getModifiers())
            && Modifier.isFinal(ReaderRows.class.getModifiers()));
        due.is("constructors", ReaderRows.class.getDeclaredConstructors().length, 1);
        due.is("public constructors", ReaderRows.class.getConstructors().length, 1);
        due.is("parameters of the constructor", ReaderRows.class.getConstructors()[0].getParameterCount(), 0);
        Class<?>[] inside = ReaderRows.class.getDeclaredClasses();
        due.holds("at most twelve classes", inside.length < 12);
        for (Class<?> one : inside) {
            int modifiers = one.getModifiers();
            due.holds(one + " is static and can't be seen from outside", Modifier.isStatic(modifiers)
                && !Modifier.isPublic(modifiers) && !Modifier.isProtected(modifiers));
            due.holds(one + " has at most twenty fields", one.getDeclaredFields().length <= 20);
            for (Method method : one.getDeclaredMethods()) {
                due.holds(method + " takes at most seven parameters", method.getParameterCount() <= 7);
                due.holds(method + " does not bear the name of a public one", !publicNames.contains(method.getName()));
            }
        }
    }
}
