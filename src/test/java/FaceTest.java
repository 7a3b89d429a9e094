import java.lang.reflect.Constructor;
import java.lang.reflect.Field;
import java.lang.reflect.Method;
import java.lang.reflect.Modifier;
import java.util.TreeSet;

/** The class shows the document's face and nothing else. */
public final class FaceTest {
    public static void main(String[] args) {
        TreeSet<String> due = new TreeSet<>();
        due.add("public static final NONE int");
        due.add("public new()");
        due.add("public feed(int, int, int, int, int) int");
        due.add("public end(int) boolean");
        due.add("public hall(int, int, int, int) int");
        due.add("public show(int, int, int, int, int, int) int");
        due.add("public rewire(int, int, int) boolean");
        due.add("public give(int, int, int) boolean");
        due.add("public fits(int, int) int");
        due.add("public plugged(int, int, int) int");
        due.add("public lacks(int, int) int");
        due.add("public book(int) int");
        due.add("public on(int, int) int");
        due.add("public snow(int, int) int");
        due.add("public worth(int) int");
        due.add("public terms(int) int");
        due.add("public fault() int");
        due.add("public door(int, int, int) boolean");
        due.add("public shared(int, int, int) int NoSuchElementException");
        due.add("public sum(int) int");
        due.add("public keeps(int) int NoSuchElementException");
        due.add("public count(int) int");

        TreeSet<String> missing = new TreeSet<>(due);
        missing.removeAll(face());
        TreeSet<String> extra = face();
        extra.removeAll(due);
        missing.forEach(member -> Check.due("missing: " + member, 0, 1));
        extra.forEach(member -> Check.due("too much: " + member, 1, 0));
        Check.due("the class is final", Modifier.isFinal(VanPlays.class.getModifiers()), true);
        Check.due("NONE", VanPlays.NONE, -1);
        classesInside();
        Check.close();
    }

    /** Rules 1, 2 and 11: of the classes inside, of names of private methods, of how many there are. */
    private static void classesInside() {
        TreeSet<String> names = new TreeSet<>();
        for (Method method : VanPlays.class.getDeclaredMethods()) {
            if (isSeen(method.getModifiers())) {
                names.add(method.getName());
            }
        }
        Class<?>[] inside = VanPlays.class.getDeclaredClasses();
        Check.due("rule 11, twelve classes", inside.length < 12, true);
        lookInto(VanPlays.class, names);
        for (Class<?> one : inside) {
            int modifiers = one.getModifiers();
            boolean shown = Modifier.isPublic(modifiers) || Modifier.isProtected(modifiers);
            Check.due("rule 1, " + one + " is hidden", shown, false);
            Check.due("rule 1, " + one + " is static", Modifier.isStatic(modifiers), true);
            lookInto(one, names);
        }
    }

    private static void lookInto(Class<?> one, TreeSet<String> publicNames) {
        int fields = 0;
        for (Field field : one.getDeclaredFields()) {
            fields += Modifier.isStatic(field.getModifiers()) ? 0 : 1;
            Check.due("rule 5, " + field + " is final",
                    Modifier.isStatic(field.getModifiers()) && !Modifier.isFinal(field.getModifiers()), false);
        }
        Check.due("rule 11, fields of " + one, fields <= 20, true);
        for (Method method : one.getDeclaredMethods()) {
            boolean hidden = !Modifier.isPublic(method.getModifiers());
            Check.due("rule 1, the name of " + method, hidden && publicNames.contains(method.getName()), false);
        }
    }

    private static TreeSet<String> face() {
        TreeSet<String> face = new TreeSet<>();
        for (Field field : VanPlays.class.getDeclaredFields()) {
            if (isSeen(field.getModifiers())) {
                face.add(Modifier.toString(field.getModifiers()) + " " + field.getName() + " " + field.getType());
            }
        }
        for (Constructor<?> made : VanPlays.class.getDeclaredConstructors()) {
            if (isSeen(made.getModifiers())) {
                face.add(Modifier.toString(made.getModifiers()) + " new(" + names(made.getParameterTypes()) + ")");
            }
        }
        for (Method method : VanPlays.class.getDeclaredMethods()) {
            if (isSeen(method.getModifiers()) && !method.isSynthetic()) {
                String thrown = names(method.getExceptionTypes());
                face.add(Modifier.toString(method.getModifiers()) + " " + method.getName()
                        + "(" + names(method.getParameterTypes()) + ") " + method.getReturnType()
                        + (thrown.isEmpty() ? "" : " " + thrown));
            }
        }
        return face;
    }

    private static boolean isSeen(int modifiers) {
        return !Modifier.isPrivate(modifiers);
    }

    private static String names(Class<?>[] types) {
        StringBuilder names = new StringBuilder();
        for (Class<?> type : types) {
            names.append(names.length() == 0 ? "" : ", ").append(type.getSimpleName());
        }
        return names.toString();
    }
}
