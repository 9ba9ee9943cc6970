import java.lang.reflect.Constructor;
import java.lang.reflect.Field;
import java.lang.reflect.Method;
import java.lang.reflect.Modifier;
import java.util.Arrays;
import java.util.Set;
import java.util.TreeSet;

/** The class has the document's face, and no other member that can be seen from outside. */
public final class FaceTests {
    private static final String[] DUE = {
        "public static final int NONE_YET = -1", "public static final int SIGN = -2",
        "public static final int NUMBER = -3", "public static final int DEEP = -4",
        "public static final int MANY = -5", "public static final int TOO_MUCH = -6",
        "public static final int BALANCED = 0", "public static final int NONE = 1",
        "public static final int MIXED = 2", "public static final int OPEN = 3",
        "public FormulaScales()",
        "public int type(long) throws IllegalArgumentException,UnsupportedOperationException",
        "public int read()", "public int at()", "public int state()", "public int freedom()",
        "public int formulas()", "public int kinds()",
        "public int name(int) throws NoSuchElementException",
        "public int has(int,int) throws NoSuchElementException",
        "public boolean product(int) throws NoSuchElementException",
        "public boolean free(int) throws NoSuchElementException",
        "public long number(int,int) throws NoSuchElementException",
        "public long weight(int) throws NoSuchElementException,IllegalStateException",
        "public int written(int) throws IllegalStateException",
        "public boolean solves(int,int,int,int,int) throws IllegalStateException"
    };

    private static int wrong = 0;

    public static void main(String[] args) throws IllegalAccessException {
        check("public final class FormulaScales".equals(FormulaScales.class.toGenericString()),
                "the class is " + FormulaScales.class.toGenericString());
        check(FormulaScales.class.getSuperclass() == Object.class && FormulaScales.class.getInterfaces().length == 0,
                "the class has no other above it");
        compareFaces();
        noPrivateMethodHasAPublicName(FormulaScales.class);
        for (Class<?> nested : FormulaScales.class.getDeclaredClasses()) {
            int modifiers = nested.getModifiers();
            check(Modifier.isStatic(modifiers), nested + " is static");
            check(!Modifier.isPublic(modifiers) && !Modifier.isProtected(modifiers), nested + " is not seen");
            noPrivateMethodHasAPublicName(nested);
        }
        System.out.println(wrong == 0 ? "the face is as due" : wrong + " checks do not hold");
        if (wrong != 0) {
            System.exit(1);
        }
    }

    private static void check(boolean holds, String what) {
        if (!holds) {
            wrong++;
            System.out.println("does not hold: " + what);
        }
    }

    private static void compareFaces() throws IllegalAccessException {
        Set<String> due = new TreeSet<>(Arrays.asList(DUE));
        Set<String> face = new TreeSet<>();
        for (Method m : FormulaScales.class.getDeclaredMethods()) {
            addUnlessPrivate(face, m.getModifiers(), m.toString());
        }
        for (Constructor<?> c : FormulaScales.class.getDeclaredConstructors()) {
            addUnlessPrivate(face, c.getModifiers(), c.toString());
        }
        for (Field f : FormulaScales.class.getDeclaredFields()) {
            boolean constant = Modifier.isStatic(f.getModifiers()) && !Modifier.isPrivate(f.getModifiers());
            addUnlessPrivate(face, f.getModifiers(), f + (constant ? " = " + f.get(null) : ""));
        }
        for (String member : face) {
            check(due.contains(member), "the document has " + member);
        }
        for (String member : due) {
            check(face.contains(member), "the class has " + member);
        }
    }

    private static void addUnlessPrivate(Set<String> face, int modifiers, String member) {
        if (!Modifier.isPrivate(modifiers)) {
            face.add(member.replace("FormulaScales.", "").replace("java.lang.", "").replace("java.util.", ""));
        }
    }

    private static void noPrivateMethodHasAPublicName(Class<?> holder) {
        for (Method m : holder.getDeclaredMethods()) {
            String named = " " + m.getName() + "(";
            boolean hidden = holder != FormulaScales.class || Modifier.isPrivate(m.getModifiers());
            check(!hidden || Arrays.stream(DUE).noneMatch(member -> member.contains(named)),
                    m + " has a name of its own");
        }
    }
}
