import java.lang.reflect.Constructor;
import java.lang.reflect.Field;
import java.lang.reflect.Method;
import java.lang.reflect.Modifier;
import java.util.Arrays;
import java.util.Set;
import java.util.TreeSet;

/** The class has the document's face and no other member that can be seen from outside. */
public final class FaceTests {
    private static final String[] METHODS = {
        "int type(long)", "int read()", "int at()", "int state()", "int freedom()", "int formulas()",
        "int kinds()", "int name(int)", "int has(int, int)", "boolean product(int)", "boolean free(int)",
        "long number(int, int)", "long weight(int)", "int written(int)",
        "boolean solves(int, int, int, int, int)"
    };
    private static final String[] CONSTANTS = {
        "NONE_YET", "SIGN", "NUMBER", "DEEP", "MANY", "TOO_MUCH", "BALANCED", "NONE", "MIXED", "OPEN"
    };

    public static void main(String[] args) {
        Set<String> members = new TreeSet<>();
        Set<String> due = new TreeSet<>(Arrays.asList(METHODS));
        due.addAll(Arrays.asList(CONSTANTS));
        due.add("new()");
        for (Method m : FormulaScales.class.getDeclaredMethods()) {
            if (!Modifier.isPrivate(m.getModifiers())) {
                members.add(shown(m.getModifiers()) + m.getReturnType() + " " + m.getName() + listed(m.getParameterTypes()));
            } else if (Arrays.toString(METHODS).contains(" " + m.getName() + "(")) {
                members.add("private " + m.getName());
            }
        }
        for (Field f : FormulaScales.class.getDeclaredFields()) {
            if (!Modifier.isPrivate(f.getModifiers())) {
                members.add(shown(f.getModifiers()) + f.getName());
            }
        }
        for (Constructor<?> c : FormulaScales.class.getDeclaredConstructors()) {
            members.add(shown(c.getModifiers()) + "new" + listed(c.getParameterTypes()));
        }
        boolean open = !Modifier.isFinal(FormulaScales.class.getModifiers());
        if (open || !members.equals(due)) {
            System.out.println("the face is " + members + ", due is " + due + (open ? "; it is not final" : ""));
            System.exit(1);
        }
        System.out.println("the face is as due");
    }

    private static String shown(int modifiers) {
        return Modifier.isPublic(modifiers) ? "" : "hidden ";
    }

    private static String listed(Class<?>[] types) {
        String list = Arrays.toString(types);
        return "(" + list.substring(1, list.length() - 1) + ")";
    }
}
