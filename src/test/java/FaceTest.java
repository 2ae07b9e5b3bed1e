import java.lang.reflect.Constructor;
import java.lang.reflect.Field;
import java.lang.reflect.Method;
import java.lang.reflect.Modifier;
import java.util.Arrays;
import java.util.Set;
import java.util.TreeSet;

/** The class has the document's face, and nothing beside it that can be seen from outside. */
public final class FaceTest {
    private static final String[] METHODS = {
        "int write(int,long)", "int wipe()", "int fault()", "int lay()", "int act(int,int)", "int year(int)",
        "int rules(long)", "int minutes(long,int,int)", "long next(long,int)", "int lawful(int,long)", "int tell(int)",
        "int noRow()", "long soon(long,int)", "long pass(int)", "long doAct(int)", "int allow(int,int,boolean)",
        "int undo()", "int gain(int)", "int forbid(int,int,int)", "int rests(int)", "int firm(int)", "int treaty(int)",
        "long bargain(int,int,long)", "int line(int,int)", "int noTable()", "int forged()", "int shift(int)",
        "int wreck(long,int,int,int)", "int drawn(int,int)", "int keep()", "int back()", "int count(int)"
    };

    private static int wrong = 0;

    public static void main(String[] args) {
        int wanted = Modifier.PUBLIC | Modifier.FINAL;
        look("the class is public and final", TwoKings.class.getModifiers() == wanted);
        look("it extends nothing", TwoKings.class.getSuperclass() == Object.class);
        lookAtMethods();
        lookAtFields();
        lookAtClassesInside();
        System.out.println("the face: " + wrong + " wrong");
        if (wrong != 0) System.exit(1);
    }

    private static void look(String what, boolean is) {
        if (is) return;
        wrong++;
        System.out.println("not so: " + what);
    }

    private static void lookAtMethods() {
        Set<String> seen = new TreeSet<>();
        for (Method m : TwoKings.class.getDeclaredMethods()) {
            if (m.isSynthetic() || Modifier.isPrivate(m.getModifiers())) continue;
            look(m.getName() + " is public alone", m.getModifiers() == Modifier.PUBLIC);
            seen.add(signature(m));
        }
        look("the methods are " + seen, seen.equals(new TreeSet<>(Arrays.asList(METHODS))));
        Constructor<?>[] made = TwoKings.class.getDeclaredConstructors();
        look("one public constructor without parameters",
            made.length == 1 && made[0].getParameterCount() == 0 && made[0].getModifiers() == Modifier.PUBLIC);
    }

    private static String signature(Method m) {
        StringBuilder text = new StringBuilder();
        text.append(m.getReturnType().getName()).append(' ').append(m.getName()).append('(');
        for (int i = 0; i < m.getParameterCount(); i++) {
            if (i > 0) text.append(',');
            text.append(m.getParameterTypes()[i].getName());
        }
        return text.append(')').toString();
    }

    private static void lookAtFields() {
        Set<String> constants = new TreeSet<>();
        for (Field f : TwoKings.class.getDeclaredFields()) {
            if (Modifier.isStatic(f.getModifiers())) look(f.getName() + " is final", Modifier.isFinal(f.getModifiers()));
            if (f.isSynthetic() || Modifier.isPrivate(f.getModifiers())) continue;
            look(f.getName() + " is an int", f.getType() == int.class);
            constants.add(f.getName());
        }
        look("the constants are " + constants, constants.toString().equals("[BAD, FULL, NO, NONE]"));
        look("their numbers", TwoKings.BAD == -1 && TwoKings.NO == -2 && TwoKings.FULL == -3 && TwoKings.NONE == -4);
    }

    private static void lookAtClassesInside() {
        Set<String> names = new TreeSet<>();
        for (String method : METHODS) names.add(method.substring(method.indexOf(' ') + 1, method.indexOf('(')));
        Class<?>[] inside = TwoKings.class.getDeclaredClasses();
        look("twelve classes at most", inside.length < 12);
        for (Method m : TwoKings.class.getDeclaredMethods()) {
            boolean hidden = Modifier.isPrivate(m.getModifiers());
            look("private " + m.getName() + " has a name of its own", !hidden || !names.contains(m.getName()));
        }
        for (Class<?> c : inside) {
            int m = c.getModifiers();
            look(c.getName() + " is static", Modifier.isStatic(m));
            look(c.getName() + " is not seen", !Modifier.isPublic(m) && !Modifier.isProtected(m));
            for (Method inner : c.getDeclaredMethods()) {
                look(c.getName() + "." + inner.getName() + " has a name of its own", !names.contains(inner.getName()));
                look(c.getName() + "." + inner.getName() + " has seven parameters at most", inner.getParameterCount() <= 7);
            }
            for (Field f : c.getDeclaredFields()) {
                boolean fixed = !Modifier.isStatic(f.getModifiers()) || Modifier.isFinal(f.getModifiers());
                look(c.getName() + "." + f.getName() + " is no static state", fixed);
            }
        }
    }
}
