import java.lang.reflect.Constructor;
import java.lang.reflect.Field;
import java.lang.reflect.Method;
import java.lang.reflect.Modifier;
import java.util.Arrays;
import java.util.HashSet;
import java.util.Set;
import java.util.TreeSet;

/** The public face is the document's, to the letter, and nothing besides it can be seen. */
final class FaceTest {
    private static final Checks CHECKS = new Checks();
    private static final String[] METHODS = {
        "int setLattice(int,int)", "int addGenerator(int,int,int)", "int removeGenerator(int)",
        "int setGenerator(int,int,int,int)", "int undo()", "int generator(int)", "int order()",
        "int element(int)", "int contains(int)", "int product(int,int)", "int orderOf(int)",
        "int kindOf(int)", "int count(int)", "int isAbelian()", "int conjugacyClasses()",
        "int linearParts()", "int rotationOrder()", "int mirrorDirections()", "int isCentered()",
        "int type()", "int orbitSize(int,int)", "int orbitFirst(int,int)", "int stabilizerOrder(int,int)",
        "int orbitCount()", "int isSymmorphic()", "long invariantColorings(int)", "long coloringClasses(int)",
    };

    public static void main(String[] args) throws IllegalAccessException {
        CHECKS.begin("the face");
        Class<?> face = WallpaperGroups.class;
        CHECKS.due("modifiers of the class", face.getModifiers(), Modifier.PUBLIC | Modifier.FINAL);
        constructors(face);
        methods(face);
        constants(face);
        classesInside(face);
        CHECKS.end();
    }

    private static void constructors(Class<?> face) {
        Constructor<?>[] all = face.getDeclaredConstructors();
        CHECKS.due("number of constructors", all.length, 1);
        CHECKS.due("parameters of the constructor", all[0].getParameterCount(), 0);
        CHECKS.holds("the constructor is public", Modifier.isPublic(all[0].getModifiers()));
    }

    private static String signature(Method method) {
        StringBuilder text = new StringBuilder();
        text.append(method.getReturnType().getName()).append(' ').append(method.getName()).append('(');
        Class<?>[] types = method.getParameterTypes();
        for (int i = 0; i < types.length; i++) {
            text.append(i == 0 ? "" : ",").append(types[i].getName());
        }
        return text.append(')').toString();
    }

    private static void methods(Class<?> face) {
        Set<String> wanted = new TreeSet<>(Arrays.asList(METHODS));
        for (Method method : face.getDeclaredMethods()) {
            if (Modifier.isPrivate(method.getModifiers()) || method.isSynthetic()) {
                continue;
            }
            CHECKS.due("modifiers of " + method.getName(), method.getModifiers(), Modifier.PUBLIC);
            CHECKS.holds(signature(method) + " is in the document", wanted.remove(signature(method)));
        }
        CHECKS.holds("no method is missing: " + wanted, wanted.isEmpty());
    }

    private static void constants(Class<?> face) throws IllegalAccessException {
        int seen = 0;
        for (Field field : face.getDeclaredFields()) {
            if (!Modifier.isPrivate(field.getModifiers())) {
                seen++;
                CHECKS.due("modifiers of " + field.getName(), field.getModifiers(),
                        Modifier.PUBLIC | Modifier.STATIC | Modifier.FINAL);
                int want = Arrays.asList("", "INVALID_ARGUMENT", "LIMIT_REACHED", "NOT_FOUND").indexOf(field.getName());
                CHECKS.due(field.getName(), field.getInt(null), -want);
                CHECKS.holds(field.getName() + " is in the document", want > 0);
            }
        }
        CHECKS.due("number of constants", seen, 3);
    }

    /** Private names that differ from the face's are a rule of LANGUAGE.md. */
    private static void classesInside(Class<?> face) {
        Set<String> faceNames = new HashSet<>();
        for (String signature : METHODS) {
            faceNames.add(signature.substring(signature.indexOf(' ') + 1, signature.indexOf('(')));
        }
        for (Class<?> inside : face.getDeclaredClasses()) {
            CHECKS.holds(inside.getName() + " is static", Modifier.isStatic(inside.getModifiers()));
            CHECKS.holds(inside.getName() + " is private", Modifier.isPrivate(inside.getModifiers()));
            for (Method method : inside.getDeclaredMethods()) {
                CHECKS.holds(inside.getName() + "." + method.getName() + " has a name of its own",
                        !faceNames.contains(method.getName()));
            }
        }
    }
}
