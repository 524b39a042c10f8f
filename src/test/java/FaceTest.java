import java.lang.reflect.Constructor;
import java.lang.reflect.Field;
import java.lang.reflect.Method;
import java.lang.reflect.Modifier;
import java.util.Arrays;
import java.util.Map;
import java.util.TreeMap;
import java.util.TreeSet;

/** The class's face: what the document lists is public, and nothing else can be seen. */
public final class FaceTest {
    private static final Due DUE = new Due("FaceTest");

    private static final String[] METHODS = {
        "append(int)", "clearText()", "firstError()", "errorReason()", "configure()",
        "setWeight(int,int)", "setCounterLimit(int)", "follow(int)", "drive(int,int)",
        "adoptCounts()", "undo()", "blockCount()", "sourceOf(int)", "targetOf(int)",
        "weightOf(int)", "hasCounter(int)", "counterCount()", "placementCost()",
        "costShareBits()", "counter(int)", "trueCount(int)", "reconstruct(int)",
        "coefficient(int,int)", "executions(int)", "dependents(int)", "saturatedCount()",
        "presentBlock()", "finishedRuns()",
    };

    private static final Map<String, Integer> CONSTANTS = new TreeMap<>(Map.of(
        "INVALID_ARGUMENT", -101, "NOT_POSSIBLE", -102, "CAPACITY_EXCEEDED", -103,
        "NOT_FOUND", -104, "UNCERTAIN", -105, "REASON_KIND", 1, "REASON_NUMBER", 2,
        "REASON_RANGE", 3, "REASON_REPEATED", 4, "REASON_FULL", 5));

    public static void main(String[] args) throws IllegalAccessException {
        int modifiers = EdgeCounterPlacer.class.getModifiers();
        DUE.holds("the class is public and final", Modifier.isPublic(modifiers) && Modifier.isFinal(modifiers));
        checkConstructor();
        checkMethods();
        checkConstants();
        checkClassesInside();
        DUE.close();
    }

    private static void checkConstructor() {
        Constructor<?>[] constructors = EdgeCounterPlacer.class.getDeclaredConstructors();
        DUE.equal("number of constructors", constructors.length, 1);
        DUE.holds("the constructor is public and takes nothing",
            Modifier.isPublic(constructors[0].getModifiers()) && constructors[0].getParameterCount() == 0);
    }

    private static void checkMethods() {
        TreeSet<String> seen = new TreeSet<>();
        TreeSet<String> publicNames = new TreeSet<>();
        TreeSet<String> privateNames = new TreeSet<>();
        for (Method method : EdgeCounterPlacer.class.getDeclaredMethods()) {
            if (Modifier.isPrivate(method.getModifiers())) {
                privateNames.add(method.getName());
                continue;
            }
            seen.add(signature(method));
            publicNames.add(method.getName());
            DUE.holds(signature(method) + " is public, not static, answers an int and declares no exception",
                Modifier.isPublic(method.getModifiers()) && !Modifier.isStatic(method.getModifiers())
                    && method.getReturnType() == int.class && method.getExceptionTypes().length == 0);
        }
        DUE.holds("the methods are those of the document: " + seen, seen.equals(new TreeSet<>(Arrays.asList(METHODS))));
        privateNames.retainAll(publicNames);
        DUE.holds("no private method has a public name: " + privateNames, privateNames.isEmpty());
    }

    private static String signature(Method method) {
        StringBuilder types = new StringBuilder();
        for (Class<?> type : method.getParameterTypes()) {
            types.append(types.length() == 0 ? "" : ",").append(type.getName());
        }
        return method.getName() + "(" + types + ")";
    }

    private static void checkConstants() throws IllegalAccessException {
        Map<String, Integer> seen = new TreeMap<>();
        for (Field field : EdgeCounterPlacer.class.getDeclaredFields()) {
            if (Modifier.isPrivate(field.getModifiers())) {
                continue;
            }
            DUE.holds(field.getName() + " is a public int constant", field.getModifiers()
                == (Modifier.PUBLIC | Modifier.STATIC | Modifier.FINAL) && field.getType() == int.class);
            seen.put(field.getName(), field.getInt(null));
        }
        DUE.holds("the constants are those of the document: " + seen, seen.equals(CONSTANTS));
    }

    private static void checkClassesInside() {
        for (Class<?> inside : EdgeCounterPlacer.class.getDeclaredClasses()) {
            int modifiers = inside.getModifiers();
            DUE.holds(inside.getName() + " is static and not public",
                Modifier.isStatic(modifiers) && !Modifier.isPublic(modifiers) && !Modifier.isProtected(modifiers));
        }
    }
}
