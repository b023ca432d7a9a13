import java.lang.reflect.Constructor;
import java.lang.reflect.Executable;
import java.lang.reflect.Field;
import java.lang.reflect.Method;
import java.lang.reflect.Modifier;
import java.util.ArrayList;
import java.util.Arrays;
import java.util.HashSet;
import java.util.List;
import java.util.Set;

/** The public face, as the document has it, and nothing beside it (LANGUAGE.md, rules 1, 2, 5 and 11). */
public final class FaceTest {
    private static final String INDEX = " IndexOutOfBoundsException";
    private static final String BOTH = " IndexOutOfBoundsException IllegalArgumentException";
    private static final String[] FACE = {
        "int make(int)" + INDEX + " IllegalStateException",
        "int read(int,int)" + INDEX,
        "boolean write(int,int,int)" + BOTH,
        "boolean define(int,int,int,boolean,boolean)" + BOTH,
        "boolean pair(int,int,int,int,int,boolean)" + BOTH,
        "boolean remove(int,int)" + INDEX,
        "boolean adopt(int,int)" + INDEX,
        "int shut(int,boolean)" + INDEX,
        "boolean settle(int)" + INDEX,
        "int readAt(int,int,int)" + INDEX,
        "int ofPlace(int,int)" + BOTH,
        "int entry(int,int,int)" + BOTH,
        "int ofObject(int,int)" + BOTH,
        "int ofField(int,int,int)" + BOTH,
        "int listed(int,int)" + INDEX,
        "int ofShape(int,int)" + BOTH,
        "int many(int) IllegalArgumentException",
        "double meanCost()",
        "int wouldCost(int,int,int)" + INDEX,
        "int wouldDrop(int,int)" + INDEX,
        "int wouldSave(int)" + INDEX,
        "int differs(int,int)" + INDEX,
        "long digest()"};

    public static void main(String[] args) {
        theClass();
        theConstructor();
        theMethods();
        noFieldIsSeen();
        theClassesInside();
        noPrivateMethodBearsAPublicName();
        Due.end();
    }

    private static void theClass() {
        int modifiers = ShapeCourt.class.getModifiers();
        Due.is("face: public", Modifier.isPublic(modifiers), true);
        Due.is("face: final", Modifier.isFinal(modifiers), true);
        Due.is("face: without a package", ShapeCourt.class.getPackageName().isEmpty(), true);
        Due.is("face: of no other class", ShapeCourt.class.getSuperclass() == Object.class, true);
        Due.is("face: of no interface", ShapeCourt.class.getInterfaces().length, 0);
    }

    private static void theConstructor() {
        Constructor<?>[] all = ShapeCourt.class.getDeclaredConstructors();
        Due.is("face: one constructor", all.length, 1);
        Due.is("face: public constructor", Modifier.isPublic(all[0].getModifiers()), true);
        Due.is("face: of nothing", all[0].getParameterCount(), 0);
        Due.is("face: that names no exception", all[0].getExceptionTypes().length, 0);
    }

    private static void theMethods() {
        List<String> due = new ArrayList<>(Arrays.asList(FACE));
        for (Method method : ShapeCourt.class.getDeclaredMethods()) {
            if (method.isSynthetic() || Modifier.isPrivate(method.getModifiers())) {
                continue;
            }
            boolean isDue = due.remove(signature(method)) && Modifier.isPublic(method.getModifiers())
                && !Modifier.isStatic(method.getModifiers());
            Due.is("face: " + signature(method) + " is of the face", isDue, true);
        }
        for (String missing : due) {
            Due.is("face: there is no " + missing, false, true);
        }
    }

    private static String signature(Method method) {
        StringBuilder text = new StringBuilder(method.getReturnType().getSimpleName());
        text.append(' ').append(method.getName()).append('(');
        String comma = "";
        for (Class<?> type : method.getParameterTypes()) {
            text.append(comma).append(type.getSimpleName());
            comma = ",";
        }
        text.append(')');
        for (Class<?> type : method.getExceptionTypes()) {
            text.append(' ').append(type.getSimpleName());
        }
        return text.toString();
    }

    private static void noFieldIsSeen() {
        for (Field field : ShapeCourt.class.getDeclaredFields()) {
            Due.is("face: " + field.getName() + " is private", Modifier.isPrivate(field.getModifiers()), true);
        }
    }

    private static List<Class<?>> allClasses() {
        List<Class<?>> all = new ArrayList<>(Arrays.asList(ShapeCourt.class.getDeclaredClasses()));
        all.add(ShapeCourt.class);
        return all;
    }

    private static void theClassesInside() {
        Due.is("rule 11: some twelve classes", allClasses().size() <= 12, true);
        for (Class<?> inside : ShapeCourt.class.getDeclaredClasses()) {
            int modifiers = inside.getModifiers();
            Due.is("rule 1: " + inside + " is static", Modifier.isStatic(modifiers), true);
            Due.is("rule 1: " + inside + " is not seen",
                !Modifier.isPublic(modifiers) && !Modifier.isProtected(modifiers), true);
        }
        for (Class<?> one : allClasses()) {
            int own = 0;
            for (Field field : one.getDeclaredFields()) {
                boolean isStatic = Modifier.isStatic(field.getModifiers());
                own += isStatic ? 0 : 1;
                Due.is("rule 5: static " + field + " is final",
                    !isStatic || Modifier.isFinal(field.getModifiers()), true);
            }
            Due.is("rule 11: some twenty fields of " + one, own <= 20, true);
            fewParameters(one.getDeclaredMethods());
            fewParameters(one.getDeclaredConstructors());
        }
    }

    private static void fewParameters(Executable[] all) {
        for (Executable one : all) {
            Due.is("rule 11: seven parameters of " + one, one.getParameterCount() <= 7, true);
        }
    }

    private static void noPrivateMethodBearsAPublicName() {
        Set<String> names = new HashSet<>();
        for (Method method : ShapeCourt.class.getMethods()) {
            names.add(method.getName());
        }
        for (Class<?> one : allClasses()) {
            for (Method method : one.getDeclaredMethods()) {
                boolean isOfTheFace = Modifier.isPublic(method.getModifiers());
                Due.is("rule 1: " + method + " has a name of its own",
                    isOfTheFace || !names.contains(method.getName()), true);
            }
        }
    }
}
