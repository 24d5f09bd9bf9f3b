import java.lang.reflect.Constructor;
import java.lang.reflect.Field;
import java.lang.reflect.Method;
import java.lang.reflect.Modifier;
import java.util.Set;
import java.util.TreeSet;

/** The class shows what the document's face has, and no more (LANGUAGE.md, rules 1 and 5). */
public final class ViewKeeperFace {
    private static final Set<String> DUE = Set.of(
        "public static final int BAD", "public static final int FULL", "public static final int CYCLE",
        "public ViewKeeper()",
        "public int rule(int,int,int,int)", "public int undo()", "public boolean stage(int,int,int,boolean)",
        "public int commit()", "public int abort()", "public boolean has(int,int,int)", "public int count(int,int,int)",
        "public int size(int)", "public boolean recursive(int)", "public boolean needs(int,int)", "public int rules()",
        "public int changed(int,int)", "public boolean suspect(int,int,int)");

    private static int wrong = 0;

    private static void hold(boolean holds, String what) {
        if (!holds) {
            wrong++;
            System.out.println("does not hold: " + what);
        }
    }

    private static void addIfShown(Set<String> shown, int modifiers, String text) {
        if (!Modifier.isPrivate(modifiers)) shown.add(text.replace("ViewKeeper.", ""));
    }

    private static void privateNamesAreOthers(Class<?> type, Set<String> publicNames) {
        for (Method method : type.getDeclaredMethods()) {
            boolean shown = type == ViewKeeper.class && Modifier.isPublic(method.getModifiers());
            hold(shown || !publicNames.contains(method.getName()), method + " bears a name of its own");
        }
    }

    private static void staticFieldsAreConstants(Class<?> type) {
        for (Field field : type.getDeclaredFields()) {
            int modifiers = field.getModifiers();
            hold(!Modifier.isStatic(modifiers) || Modifier.isFinal(modifiers), field + " is final");
        }
    }

    public static void main(String[] args) {
        Class<?> type = ViewKeeper.class;
        Set<String> shown = new TreeSet<>();
        Set<String> publicNames = new TreeSet<>();
        for (Field field : type.getDeclaredFields()) addIfShown(shown, field.getModifiers(), field.toString());
        for (Constructor<?> made : type.getDeclaredConstructors()) addIfShown(shown, made.getModifiers(), made.toString());
        for (Method method : type.getDeclaredMethods()) {
            addIfShown(shown, method.getModifiers(), method.toString());
            if (Modifier.isPublic(method.getModifiers())) publicNames.add(method.getName());
        }
        hold(shown.equals(DUE), "the face is " + new TreeSet<>(DUE) + ", it was " + shown);
        hold(Modifier.isPublic(type.getModifiers()) && Modifier.isFinal(type.getModifiers()), "the class is public and final");
        hold(type.getSuperclass() == Object.class && type.getInterfaces().length == 0, "the class stands alone");
        privateNamesAreOthers(type, publicNames);
        staticFieldsAreConstants(type);
        for (Class<?> inside : type.getDeclaredClasses()) {
            hold(Modifier.isStatic(inside.getModifiers()) && !Modifier.isPublic(inside.getModifiers()), inside + " is static and not public");
            privateNamesAreOthers(inside, publicNames);
            staticFieldsAreConstants(inside);
        }
        System.out.println(wrong == 0 ? "the face is as due" : wrong + " things are not as due");
        if (wrong != 0) System.exit(1);
    }
}
