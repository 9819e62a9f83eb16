import java.lang.reflect.InvocationTargetException;
import java.lang.reflect.Method;
import java.util.ArrayDeque;
import java.util.ArrayList;
import java.util.Arrays;
import java.util.Comparator;
import java.util.List;
import java.util.Random;
import java.util.TreeMap;

/** Long runs of random calls on a RiverReaches and on a Model: each answer and each exception must be the same. */
public final class RandomRunsTest {
    private static final int RUNS = 1500;
    private static final int CALLS = 512;

    private static final List<Method> METHODS = new ArrayList<>();
    /** How often a call ended in what, to see that the runs reach everything. */
    private static final TreeMap<String, Integer> REACHED = new TreeMap<>();

    private final Random random;
    private final RiverReaches river = new RiverReaches();
    private final Model model = new Model();
    private final List<String> calls = new ArrayList<>();
    private int[] weights;
    private boolean isWordy;
    private String planned = "";
    private final ArrayDeque<String> next = new ArrayDeque<>();

    private RandomRunsTest(long seed) {
        random = new Random(seed);
    }

    public static void main(String[] args) throws Exception {
        for (Method method : RiverReaches.class.getDeclaredMethods()) {
            if (java.lang.reflect.Modifier.isPublic(method.getModifiers())) {
                METHODS.add(method);
            }
        }
        METHODS.sort(Comparator.comparing(Method::getName));
        for (int seed = 1; seed <= RUNS; seed++) {
            RandomRunsTest run = new RandomRunsTest(seed);
            if (!run.isAsDue()) {
                System.out.println("RandomRunsTest: seed " + seed + " is wrong");
                run.calls.forEach(System.out::println);
                System.exit(1);
            }
        }
        if (args.length > 0) {
            REACHED.forEach((what, count) -> System.out.println(what + ": " + count));
        }
        METHODS.forEach(RandomRunsTest::requireReached);
        System.out.println("RandomRunsTest: " + RUNS + " runs of " + CALLS + " calls, 0 wrong");
    }

    /** A run that never comes to an answer or to an exception would prove nothing about it. */
    private static void requireReached(Method method) {
        List<String> ends = new ArrayList<>(List.of(" answered"));
        for (Class<?> exception : method.getExceptionTypes()) {
            ends.add(" throws " + exception.getSimpleName());
        }
        for (String end : ends) {
            if (REACHED.getOrDefault(method.getName() + end, 0) < 100) {
                System.out.println("RandomRunsTest: hardly ever " + method.getName() + end);
                System.exit(1);
            }
        }
    }

    private boolean isAsDue() throws Exception {
        chooseWeights();
        for (int call = 0; call < CALLS; call++) {
            Method method = chooseMethod();
            Object[] arguments = chooseArguments(method);
            String got = answer(river, method, arguments);
            Method modelled = Model.class.getMethod(method.getName(), method.getParameterTypes());
            String want = answer(model, modelled, arguments);
            calls.add(method.getName() + Arrays.toString(arguments) + " answered " + got);
            boolean thrown = got.startsWith("throws");
            REACHED.merge(method.getName() + (thrown ? " " + got : " answered"), 1, Integer::sum);
            if (!got.equals(want)) {
                calls.add("due is " + want);
                return false;
            }
        }
        return true;
    }

    private static String answer(Object object, Method method, Object[] arguments) throws Exception {
        try {
            return String.valueOf(method.invoke(object, arguments));
        } catch (InvocationTargetException e) {
            return "throws " + e.getCause().getClass().getSimpleName();
        }
    }

    /** Each run has its own mixture: some remove much, some pass many hours, some undo often, some run many texts. */
    private void chooseWeights() {
        weights = new int[METHODS.size()];
        isWordy = random.nextInt(3) == 0;
        for (int i = 0; i < weights.length; i++) {
            String name = METHODS.get(i).getName();
            weights[i] = 1 + random.nextInt(6);
            if (name.equals("addReach") || name.equals("fill")) {
                weights[i] += 8;
            }
            if (name.equals("pass") || name.equals("addPulse")) {
                weights[i] = 2 + random.nextInt(25);
            }
            if (name.equals("removeLastReach") || name.equals("restoreSnapshot")) {
                weights[i] = random.nextInt(3);
            }
            if (name.equals("undo")) {
                weights[i] = random.nextInt(12);
            }
            if (name.equals("execute")) {
                weights[i] = random.nextInt(2);
            }
            if (name.equals("feed")) {
                weights[i] = isWordy ? 20 : random.nextInt(4);
            }
        }
    }

    private Method chooseMethod() {
        if (!planned.isEmpty()) {
            return named("feed");
        }
        if (!next.isEmpty()) {
            return named(next.removeFirst());
        }
        int place = random.nextInt(Arrays.stream(weights).sum());
        int i = 0;
        while (place >= weights[i]) {
            place -= weights[i];
            i++;
        }
        Method method = METHODS.get(i);
        if (method.getName().equals("feed") && random.nextInt(isWordy ? 40 : 10) > 0) {
            planned = text();
            if (isWordy || random.nextInt(5) > 0) {
                next.addAll(List.of("execute", "denial", "denialDetail", "denialCause", "denialCauseDetail"));
            }
        }
        return method;
    }

    private static Method named(String name) {
        return METHODS.stream().filter(method -> method.getName().equals(name)).findFirst().orElseThrow();
    }

    private Object[] chooseArguments(Method method) {
        int count = method.getParameterCount();
        return switch (method.getName()) {
            case "addReach" -> new Object[] {in(1, 50), in(5, 60), in(1, 500)};
            case "setLateral" -> new Object[] {reach(), random.nextBoolean() ? in(0, 3) : in(0, 50)};
            case "fill" -> new Object[] {reach(), in(1, 999)};
            case "setStages" -> new Object[] {reach(), stage(1, 998), stage(2, 999)};
            case "setGate" -> new Object[] {reach(), random.nextBoolean() ? 10 * in(0, 10) : in(0, 100)};
            case "setRule" -> new Object[] {reach(), rule()};
            case "addPulse" -> new Object[] {hour(999), in(1, 24), in(1, 200)};
            case "pass" -> new Object[] {in(1, random.nextBoolean() ? 3 : 48)};
            case "reachByLevel" -> new Object[] {reach()};
            case "headInflow" -> new Object[] {hour(2000)};
            case "levelAfter", "peakLevel" -> new Object[] {reach(), in(0, 48)};
            case "volumeAfter", "volumeAfterByBalance" -> new Object[] {in(0, 48)};
            case "lineCharacter" -> new Object[] {in(0, 20)};
            case "feed" -> new Object[] {sign()};
            default -> count == 0 ? new Object[0] : new Object[] {reach()};
        };
    }

    private char sign() {
        if (planned.isEmpty()) {
            return random.nextBoolean() ? ';' : (char) random.nextInt(65536);
        }
        char sign = planned.charAt(0);
        planned = planned.substring(1);
        return sign;
    }

    /** A number of the range, now and then one at or beyond its ends. */
    private int in(int least, int greatest) {
        int kind = random.nextInt(60);
        return switch (kind) {
            case 0 -> least - 1;
            case 1 -> greatest + 1;
            case 2 -> random.nextInt();
            case 3, 4 -> least;
            case 5, 6 -> greatest;
            default -> least + random.nextInt(greatest - least + 1);
        };
    }

    private int reach() {
        return random.nextInt(15) == 0 ? in(0, 8) : random.nextInt(Math.max(1, model.reachCount()));
    }

    private int stage(int least, int greatest) {
        return random.nextBoolean() ? in(least, greatest) : in(least, 60);
    }

    private int hour(int greatest) {
        return random.nextInt(4) == 0 ? in(0, greatest) : model.hour() + random.nextInt(30) - 2;
    }

    private char rule() {
        return random.nextInt(12) == 0 ? (char) random.nextInt(300) : "fhr".charAt(random.nextInt(3));
    }

    private String text() {
        StringBuilder text = new StringBuilder();
        int commands = 1 + random.nextInt(6);
        for (int i = 0; i < commands; i++) {
            String command = command();
            if (i > 0 && text.length() + command.length() > 59 && random.nextInt(8) > 0) {
                break;
            }
            text.append(i > 0 ? ";" : "").append(command);
        }
        if (random.nextInt(4) == 0) {
            spoil(text);
        }
        return text.toString();
    }

    private void spoil(StringBuilder text) {
        int place = random.nextInt(text.length());
        char sign = "0123456789 ;;fhrcutpale".charAt(random.nextInt(23));
        switch (random.nextInt(4)) {
            case 0 -> text.setCharAt(place, sign);
            case 1 -> text.insert(place, sign);
            case 2 -> text.deleteCharAt(place);
            default -> text.setLength(place);
        }
    }

    private String command() {
        int reach = Math.floorMod(reach(), 10);
        return switch (random.nextInt(9)) {
            case 0 -> "reach " + number(1, 50) + " " + number(5, 60) + " " + number(1, 500);
            case 1 -> random.nextInt(3) == 0 ? "cut" : "pass " + number(1, 3);
            case 2 -> "lateral " + reach + " " + number(0, 50);
            case 3 -> "fill " + reach + " " + number(1, 999);
            case 4 -> "stages " + reach + " " + number(1, 60) + " " + number(50, 999);
            case 5 -> "gate " + reach + " " + number(0, 100);
            case 6 -> "rule " + reach + " " + "fhr".charAt(random.nextInt(3));
            case 7 -> "pulse " + Math.min(999, model.hour() + random.nextInt(20)) + " " + number(1, 24) + " "
                    + number(1, 200);
            default -> "pass " + number(1, 48);
        };
    }

    private String number(int least, int greatest) {
        String digits = Integer.toString(Math.floorMod(in(least, greatest), 1000));
        return random.nextInt(8) == 0 ? "0".repeat(3 - digits.length()) + digits : digits;
    }
}
