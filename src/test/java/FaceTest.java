import java.lang.reflect.Constructor;
import java.lang.reflect.Field;
import java.lang.reflect.Method;
import java.lang.reflect.Modifier;
import java.util.Arrays;
import java.util.TreeSet;
import java.util.stream.Collectors;

/** The face of the class: what the document lists, and nothing else that is not private. */
public final class FaceTest {
    private static final Check CHECK = new Check("FaceTest");

    private static final String[] DUE = {
        "int addReach(int,int,int) throws IllegalArgumentException,UnsupportedOperationException",
        "int removeLastReach() throws UnsupportedOperationException",
        "int setLateral(int,int) throws IndexOutOfBoundsException,IllegalArgumentException,UnsupportedOperationException",
        "int fill(int,int) throws IndexOutOfBoundsException,IllegalArgumentException",
        "int reachCount()",
        "int volume(int) throws IndexOutOfBoundsException",
        "int lateral(int) throws IndexOutOfBoundsException",
        "int inflow(int) throws IndexOutOfBoundsException",
        "int outflow(int) throws IndexOutOfBoundsException",
        "int setStages(int,int,int) throws IndexOutOfBoundsException,IllegalArgumentException",
        "int setGate(int,int) throws IndexOutOfBoundsException,IllegalArgumentException,UnsupportedOperationException",
        "int setRule(int,char) throws IndexOutOfBoundsException,IllegalArgumentException,UnsupportedOperationException",
        "int level(int) throws IndexOutOfBoundsException",
        "int status(int) throws IndexOutOfBoundsException",
        "boolean isFlooded(int) throws IndexOutOfBoundsException",
        "int opening(int) throws IndexOutOfBoundsException",
        "char rule(int) throws IndexOutOfBoundsException",
        "int roomBelowFlood(int) throws IndexOutOfBoundsException,NoSuchElementException",
        "int reachByLevel(int) throws NoSuchElementException",
        "int addPulse(int,int,int) throws IllegalArgumentException,UnsupportedOperationException",
        "int pass(int) throws IllegalArgumentException,UnsupportedOperationException",
        "int hour()",
        "int pulseCount()",
        "int headInflow(int) throws IllegalArgumentException",
        "int pendingInflow()",
        "int pendingInflowByPulses()",
        "int levelAfter(int,int) throws IndexOutOfBoundsException,IllegalArgumentException",
        "int peakLevel(int,int) throws IndexOutOfBoundsException,IllegalArgumentException",
        "int hoursUntilFlood(int) throws IndexOutOfBoundsException,NoSuchElementException",
        "int volumeAfter(int) throws IllegalArgumentException",
        "int volumeAfterByBalance(int) throws IllegalArgumentException",
        "int totalVolume()",
        "int totalIn()",
        "int totalOut()",
        "int alarms()",
        "double meanLevel() throws ArithmeticException",
        "float floodedShare() throws ArithmeticException",
        "int feed(char) throws IllegalStateException",
        "int execute() throws IllegalArgumentException,UnsupportedOperationException",
        "int faultPosition() throws NoSuchElementException",
        "int writeReach(int) throws IndexOutOfBoundsException",
        "int writeRiver()",
        "char lineCharacter(int) throws IndexOutOfBoundsException",
        "int denial() throws NoSuchElementException",
        "int denialDetail() throws NoSuchElementException",
        "int denialCause() throws NoSuchElementException",
        "int denialCauseDetail() throws NoSuchElementException",
        "int undo() throws IllegalStateException",
        "int undoCount()",
        "int saveSnapshot()",
        "int restoreSnapshot() throws IllegalStateException"
    };

    public static void main(String[] args) {
        classItself();
        methods();
        nothingElse();
        CHECK.finish();
    }

    private static void classItself() {
        int modifiers = RiverReaches.class.getModifiers();
        CHECK.due("public", Modifier.isPublic(modifiers), true);
        CHECK.due("final", Modifier.isFinal(modifiers), true);
        Constructor<?>[] constructors = RiverReaches.class.getDeclaredConstructors();
        CHECK.due("constructors", constructors.length, 1);
        CHECK.due("the constructor's parameters", constructors[0].getParameterCount(), 0);
        CHECK.due("the constructor is public", Modifier.isPublic(constructors[0].getModifiers()), true);
        CHECK.due("the constructor's exceptions", constructors[0].getExceptionTypes().length, 0);
    }

    private static void methods() {
        TreeSet<String> got = new TreeSet<>();
        for (Method method : RiverReaches.class.getDeclaredMethods()) {
            if (Modifier.isPublic(method.getModifiers())) {
                got.add(signature(method));
                CHECK.due(method.getName() + " is static", Modifier.isStatic(method.getModifiers()), false);
            }
        }
        String want = String.join("\n", new TreeSet<>(Arrays.asList(DUE)));
        CHECK.due("the public methods", String.join("\n", got), want);
    }

    private static String signature(Method method) {
        String head = method.getReturnType().getName() + " " + method.getName();
        String exceptions = names(method.getExceptionTypes());
        return head + "(" + names(method.getParameterTypes()) + ")" + (exceptions.isEmpty() ? "" : " throws " + exceptions);
    }

    private static String names(Class<?>[] types) {
        return Arrays.stream(types).map(Class::getSimpleName).collect(Collectors.joining(","));
    }

    private static void nothingElse() {
        TreeSet<String> publicNames = new TreeSet<>();
        for (String due : DUE) {
            publicNames.add(due.substring(due.indexOf(' ') + 1, due.indexOf('(')));
        }
        for (Method method : RiverReaches.class.getDeclaredMethods()) {
            int modifiers = method.getModifiers();
            if (!Modifier.isPublic(modifiers) && !method.isSynthetic()) {
                CHECK.due(method.getName() + " is private", Modifier.isPrivate(modifiers), true);
                CHECK.due(method.getName() + " bears a public name", publicNames.contains(method.getName()), false);
            }
        }
        for (Field field : RiverReaches.class.getDeclaredFields()) {
            CHECK.due(field.getName() + " is private", Modifier.isPrivate(field.getModifiers()), true);
        }
        for (Class<?> inside : RiverReaches.class.getDeclaredClasses()) {
            CHECK.due(inside.getSimpleName() + " is public", Modifier.isPublic(inside.getModifiers()), false);
            CHECK.due(inside.getSimpleName() + " is static", Modifier.isStatic(inside.getModifiers()), true);
        }
    }
}
