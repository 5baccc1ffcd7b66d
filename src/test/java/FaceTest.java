import java.lang.reflect.Constructor;
import java.lang.reflect.Field;
import java.lang.reflect.Method;
import java.lang.reflect.Modifier;
import java.util.Arrays;
import java.util.TreeSet;

/** The public face: every constant with its value, the constructor, every method, and no more. */
public final class FaceTest {
    private static final String[] CONSTANTS = {
        "BAD=-1", "NOBODY=-2", "EARLY=-3", "LATE=-4", "POOR=-5", "NO_OTHER=21", "SHORT=22",
        "RESERVE=23", "DRY=24", "KILLED=25", "NONE=26", "TIME=27"
    };
    private static final String[] METHODS = {
        "boolean by(int,int)", "int send(int,int)", "int trust(int,int,int,boolean)",
        "int rate(int)", "boolean spend(int,int,boolean)", "int pay(int,int,int)",
        "int offer(int,int,int,int,int)", "int cancel(int)", "int deposit(int,int,int,int)",
        "int settle(int)", "int tick(int)", "int account(int,int)", "int balance(int,int,int)",
        "int limit(int,int,int)", "int funds(int,int)", "int book(int,int,int)",
        "int offerOf(int,int)", "int depositOf(int)", "int burnt()", "int root()"
    };

    public static void main(String[] args) throws Exception {
        Checks checks = new Checks();
        Class<TollLedger> face = TollLedger.class;
        checks.yes("public and final",
                Modifier.isPublic(face.getModifiers()) && Modifier.isFinal(face.getModifiers()));
        checks.yes("constants " + constantsOf(face),
                constantsOf(face).equals(new TreeSet<>(Arrays.asList(CONSTANTS))));
        checks.yes("methods " + methodsOf(face),
                methodsOf(face).equals(new TreeSet<>(Arrays.asList(METHODS))));
        Constructor<?>[] constructors = face.getDeclaredConstructors();
        checks.same("constructors", constructors.length, 1);
        checks.same("parameters of the constructor", constructors[0].getParameterCount(), 0);
        checks.yes("public constructor", Modifier.isPublic(constructors[0].getModifiers()));
        checkPrivateNames(checks, face);
        checkClassesInside(checks, face);
        checks.end();
    }

    private static TreeSet<String> constantsOf(Class<?> face) throws Exception {
        TreeSet<String> found = new TreeSet<>();
        for (Field field : face.getDeclaredFields()) {
            int modifiers = field.getModifiers();
            if (!Modifier.isPrivate(modifiers)) {
                String kind = Modifier.isPublic(modifiers) && Modifier.isStatic(modifiers)
                        && Modifier.isFinal(modifiers) && field.getType() == int.class ? "" : "? ";
                found.add(kind + field.getName() + "=" + field.get(null));
            }
        }
        return found;
    }

    private static TreeSet<String> methodsOf(Class<?> face) {
        TreeSet<String> found = new TreeSet<>();
        for (Method method : face.getDeclaredMethods()) {
            if (!Modifier.isPrivate(method.getModifiers())) {
                StringBuilder text = new StringBuilder();
                text.append(method.getReturnType()).append(' ').append(method.getName()).append('(');
                for (int i = 0; i < method.getParameterCount(); i++) {
                    text.append(i > 0 ? "," : "").append(method.getParameterTypes()[i]);
                }
                found.add(text.append(')').toString());
            }
        }
        return found;
    }

    private static void checkPrivateNames(Checks checks, Class<?> face) {
        TreeSet<String> open = new TreeSet<>();
        for (Method method : face.getMethods()) {
            open.add(method.getName());
        }
        for (Method method : face.getDeclaredMethods()) {
            if (Modifier.isPrivate(method.getModifiers())) {
                checks.no("name of private " + method.getName(), open.contains(method.getName()));
            }
        }
    }

    private static void checkClassesInside(Checks checks, Class<?> face) {
        for (Class<?> inside : face.getDeclaredClasses()) {
            int modifiers = inside.getModifiers();
            checks.yes("static class " + inside.getName(), Modifier.isStatic(modifiers));
            checks.no("open class " + inside.getName(),
                    Modifier.isPublic(modifiers) || Modifier.isProtected(modifiers));
        }
    }
}
