import java.lang.reflect.Constructor;
import java.lang.reflect.Field;
import java.lang.reflect.Method;
import java.lang.reflect.Modifier;
import java.util.ArrayList;
import java.util.List;
import java.util.TreeSet;

/** The face: each constant, the constructor and each method with its throws clause, and no other member to be seen. */
public final class FaceTest {
    private static final String INDEX = "IndexOutOfBoundsException";
    private static final String BOTH = INDEX + " IllegalArgumentException";
    private static final String STATE = INDEX + " IllegalStateException";
    private static final String EVERY = BOTH + " IllegalStateException";

    private static final String[][] METHODS = {
        {"int fund int int", EVERY}, {"int scheme int int int", EVERY}, {"int claim int int", EVERY},
        {"void sample int int int", BOTH}, {"int learn int int", INDEX}, {"int publish int", INDEX},
        {"boolean plan int int", INDEX}, {"boolean know int", INDEX}, {"boolean admit int", STATE},
        {"int deal int int int", EVERY}, {"int file int int int", EVERY}, {"int amend int int", EVERY},
        {"int extend int", STATE}, {"int choose int int", EVERY}, {"int help int int", EVERY},
        {"int judge int", STATE}, {"int settle int int", EVERY}, {"int work int int int", BOTH},
        {"int tell int int", INDEX}, {"boolean fire int int", STATE}, {"int award int int", STATE},
        {"int pass int", "IllegalArgumentException IllegalStateException"},
        {"int covers int int", INDEX}, {"int bars int int", INDEX}, {"int first int", INDEX},
        {"int firstAnew int", INDEX}, {"int due int", INDEX}, {"boolean sees int int", INDEX},
        {"int ofSuit int int", INDEX}, {"int ofClaim int int", INDEX}, {"int got int int", INDEX},
        {"int ofFirm int int", INDEX}, {"int all int", INDEX},
    };

    public static void main(String[] args) throws IllegalAccessException {
        theConstants();
        theMethods();
        theClass();
        Check.close();
    }

    private static void theConstants() throws IllegalAccessException {
        TreeSet<String> got = new TreeSet<>();
        for (Field field : RelatorsBench.class.getDeclaredFields()) {
            if (!Modifier.isPrivate(field.getModifiers())) {
                got.add(Modifier.toString(field.getModifiers()) + " " + field.getType() + " " + field.getName()
                        + " " + field.getInt(null));
            } else if (Modifier.isStatic(field.getModifiers())) {
                Check.is(field.getName() + " is final", true, Modifier.isFinal(field.getModifiers()));
            }
        }
        TreeSet<String> want = new TreeSet<>();
        for (String constant : new String[] {"NONE -1", "BY_FACT 0", "BY_WORD 1", "BY_KEEPING 2",
            "OPEN 0", "JOINED 1", "DECLINED 2", "DISMISSED 3", "WON 4"}) {
            want.add("public static final int " + constant);
        }
        Check.is("the constants", want.toString(), got.toString());
    }

    private static void theMethods() {
        TreeSet<String> want = new TreeSet<>();
        TreeSet<String> publicNames = new TreeSet<>();
        for (String[] method : METHODS) {
            want.add("public " + method[0] + " throws " + method[1]);
            publicNames.add(method[0].split(" ")[1]);
        }
        TreeSet<String> got = new TreeSet<>();
        for (Method method : RelatorsBench.class.getDeclaredMethods()) {
            if (Modifier.isPrivate(method.getModifiers())) {
                Check.is(method.getName() + " bears no public name", false, publicNames.contains(method.getName()));
            } else {
                got.add(told(method));
            }
        }
        Check.is("the methods", want.toString(), got.toString());
    }

    private static String told(Method method) {
        List<String> words = new ArrayList<>();
        words.add(Modifier.toString(method.getModifiers()));
        words.add(method.getReturnType().getSimpleName());
        words.add(method.getName());
        for (Class<?> parameter : method.getParameterTypes()) {
            words.add(parameter.getSimpleName());
        }
        words.add("throws");
        for (Class<?> exception : method.getExceptionTypes()) {
            words.add(exception.getSimpleName());
        }
        return String.join(" ", words);
    }

    private static void theClass() {
        Check.is("the class", "public final", Modifier.toString(RelatorsBench.class.getModifiers()));
        Constructor<?>[] constructors = RelatorsBench.class.getDeclaredConstructors();
        Check.is("constructors", 1, constructors.length);
        Check.is("the constructor is public", true, Modifier.isPublic(constructors[0].getModifiers()));
        Check.is("the constructor's parameters", 0, constructors[0].getParameterCount());
        for (Class<?> inside : RelatorsBench.class.getDeclaredClasses()) {
            int modifiers = inside.getModifiers();
            Check.is(inside.getSimpleName() + " is static", true, Modifier.isStatic(modifiers));
            Check.is(inside.getSimpleName() + " is hidden", false,
                    Modifier.isPublic(modifiers) || Modifier.isProtected(modifiers));
        }
    }
}
