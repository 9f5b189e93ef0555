import java.lang.reflect.Constructor;
import java.lang.reflect.Field;
import java.lang.reflect.Method;
import java.lang.reflect.Modifier;
import java.util.Arrays;
import java.util.Set;
import java.util.TreeSet;

/** The class shows the document's face and nothing else. */
public final class FaceTest {
    private static final String[] FACE = {
        "BAD int", "DOWN int", "BUSY int", "NONE int",
        "new [int]",
        "work [int, int] int", "send [int, int] int", "receive [int, int] int",
        "lose [int, int] int", "checkpoint [int] int", "crash [int] int", "restart [int] int",
        "tick [] int", "value [int] int", "kept [int] int", "label [int, int, int] int",
        "waiting [int, int] int", "down [int] boolean", "instance [int] int",
        "decision [int] int", "notes [] int", "times [int, int] int",
    };

    public static void main(String[] args) {
        Set<String> due = new TreeSet<>(Arrays.asList(FACE));
        Set<String> got = shown();
        boolean right = true;
        if (!got.equals(due)) {
            System.out.println("the face is " + got + ", due is " + due);
            right = false;
        }
        int modifiers = TwoPhaseCuts.class.getModifiers();
        if (!Modifier.isPublic(modifiers) || !Modifier.isFinal(modifiers)) {
            System.out.println("the class is not public and final");
            right = false;
        }
        for (String name : hiddenNamesOfTheFace()) {
            System.out.println("a method that is not of the face bears the name " + name);
            right = false;
        }
        if (!right) {
            System.exit(1);
        }
        System.out.println("the face is as due");
    }

    private static Set<String> shown() {
        Set<String> shown = new TreeSet<>();
        for (Field f : TwoPhaseCuts.class.getDeclaredFields()) {
            if (!Modifier.isPrivate(f.getModifiers())) {
                String constant = Modifier.isStatic(f.getModifiers())
                        && Modifier.isFinal(f.getModifiers()) ? "" : " not constant";
                shown.add(f.getName() + " " + f.getType() + constant);
            }
        }
        for (Constructor<?> c : TwoPhaseCuts.class.getDeclaredConstructors()) {
            if (!Modifier.isPrivate(c.getModifiers())) {
                shown.add("new " + Arrays.toString(c.getParameterTypes()));
            }
        }
        for (Method m : TwoPhaseCuts.class.getDeclaredMethods()) {
            if (!Modifier.isPrivate(m.getModifiers())) {
                shown.add(m.getName() + " " + Arrays.toString(m.getParameterTypes()) + " "
                        + m.getReturnType());
            }
        }
        return shown;
    }

    private static Set<String> hiddenNamesOfTheFace() {
        Set<String> open = new TreeSet<>();
        Set<String> hidden = new TreeSet<>();
        for (Method m : TwoPhaseCuts.class.getDeclaredMethods()) {
            (Modifier.isPublic(m.getModifiers()) ? open : hidden).add(m.getName());
        }
        for (Class<?> inside : TwoPhaseCuts.class.getDeclaredClasses()) {
            for (Method m : inside.getDeclaredMethods()) {
                hidden.add(m.getName());
            }
        }
        hidden.retainAll(open);
        return hidden;
    }
}
