import java.lang.reflect.Constructor;
import java.lang.reflect.Field;
import java.lang.reflect.Method;
import java.lang.reflect.Modifier;
import java.util.Arrays;
import java.util.TreeSet;

/** The class shows the document's public face and nothing else. */
public final class FaceTest {
    private static final String[] FACE = {
        "int event(long,long)", "int gate(int,int)", "int below(int,int)", "int cuts(int,long)",
        "int cut(int,int)", "long chance(int,int)", "boolean exact()", "int common(int,int,long,long)",
        "int grade(int,int,int)", "int goal(int)", "int trace(int,int,int)", "int open(int)",
        "long cover(int,int) throws ArithmeticException", "int plain(int)"
    };

    public static void main(String[] args) {
        int wrong = 0;
        Class<?> face = SafetyTrees.class;
        wrong += check("the class is public", Modifier.isPublic(face.getModifiers()));
        wrong += check("the class is final", Modifier.isFinal(face.getModifiers()));
        Constructor<?>[] made = face.getDeclaredConstructors();
        wrong += check("one public constructor without arguments",
            made.length == 1 && Modifier.isPublic(made[0].getModifiers()) && made[0].getParameterCount() == 0);
        TreeSet<String> seen = new TreeSet<>();
        TreeSet<String> names = new TreeSet<>();
        for (Method method : face.getDeclaredMethods()) {
            if (!Modifier.isPrivate(method.getModifiers())) {
                seen.add(written(method));
                names.add(method.getName());
                wrong += check(method.getName() + " is public and not static",
                    Modifier.isPublic(method.getModifiers()) && !Modifier.isStatic(method.getModifiers()));
            }
        }
        wrong += check("the methods are " + seen, seen.equals(new TreeSet<>(Arrays.asList(FACE))));
        for (Field field : face.getDeclaredFields()) {
            wrong += check("field " + field.getName() + " is private", Modifier.isPrivate(field.getModifiers()));
        }
        wrong += checkInside(face, names);
        System.out.println(wrong == 0 ? "the face is as due" : wrong + " things are not as due");
        if (wrong != 0) {
            System.exit(1);
        }
    }

    /** Rule 1 of LANGUAGE.md: classes inside are not public, and no other method bears a public one's name. */
    private static int checkInside(Class<?> face, TreeSet<String> names) {
        int wrong = 0;
        for (Method method : face.getDeclaredMethods()) {
            if (Modifier.isPrivate(method.getModifiers())) {
                wrong += check("private " + method.getName() + " has its own name", !names.contains(method.getName()));
            }
        }
        for (Class<?> inside : face.getDeclaredClasses()) {
            wrong += check(inside.getSimpleName() + " is static and not public",
                Modifier.isStatic(inside.getModifiers()) && !Modifier.isPublic(inside.getModifiers()));
            for (Method method : inside.getDeclaredMethods()) {
                wrong += check(method.getName() + " has its own name", !names.contains(method.getName()));
            }
        }
        return wrong;
    }

    private static String written(Method method) {
        StringBuilder text = new StringBuilder(method.getReturnType() + " " + method.getName() + "(");
        for (int i = 0; i < method.getParameterCount(); i++) {
            text.append(i == 0 ? "" : ",").append(method.getParameterTypes()[i]);
        }
        text.append(")");
        for (Class<?> thrown : method.getExceptionTypes()) {
            text.append(" throws ").append(thrown.getSimpleName());
        }
        return text.toString();
    }

    private static int check(String what, boolean holds) {
        if (!holds) {
            System.out.println("does not hold: " + what);
        }
        return holds ? 0 : 1;
    }
}
