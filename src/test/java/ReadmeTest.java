import java.io.IOException;
import java.lang.reflect.InvocationTargetException;
import java.lang.reflect.Method;
import java.lang.reflect.Modifier;
import java.nio.file.Files;
import java.nio.file.Path;
import java.util.ArrayList;
import java.util.List;
import java.util.regex.Matcher;
import java.util.regex.Pattern;

/** The examples of README.md: each call is made and answers what the comment behind it begins with. */
public final class ReadmeTest {
    private static final Check CHECK = new Check("ReadmeTest");

    private static final String NEW = "RiverReaches river = new RiverReaches();";
    private static final Pattern FEED = Pattern.compile("feed\\(river, \"([^\"]*)\"\\);");
    private static final Pattern LINE = Pattern.compile("line\\(river, river\\.(\\w+)\\((.*?)\\)\\); +// (.*)");
    private static final Pattern CALL = Pattern.compile("river\\.(\\w+)\\((.*?)\\); +// (.*)");

    private static RiverReaches river;

    public static void main(String[] args) throws Exception {
        List<String> page = Files.readAllLines(Path.of("README.md"));
        for (String example : examples(page)) {
            if (!example.contains("static ")) {
                example.lines().forEach(ReadmeTest::follow);
            }
        }
        everyCallIsTold(String.join("\n", page));
        CHECK.finish();
    }

    private static List<String> examples(List<String> page) throws IOException {
        List<String> examples = new ArrayList<>();
        StringBuilder open = null;
        for (String line : page) {
            if (line.equals("```java")) {
                open = new StringBuilder();
            } else if (line.equals("```") && open != null) {
                examples.add(open.toString());
                open = null;
            } else if (open != null) {
                open.append(line).append('\n');
            }
        }
        CHECK.due("the number of examples", examples.size(), 10);
        return examples;
    }

    private static void follow(String statement) {
        Matcher feed = FEED.matcher(statement);
        Matcher line = LINE.matcher(statement);
        Matcher call = CALL.matcher(statement);
        if (statement.equals(NEW)) {
            river = new RiverReaches();
        } else if (feed.matches()) {
            Check.feed(river, feed.group(1));
        } else if (line.matches()) {
            int length = Integer.parseInt(answer(line.group(1), line.group(2)));
            compare(statement, '"' + Check.line(river, length) + '"', line.group(3));
        } else if (call.matches()) {
            compare(statement, answer(call.group(1), call.group(2)), call.group(3));
        } else {
            CHECK.due(statement, "cannot be followed", "");
        }
    }

    private static void compare(String statement, String got, String comment) {
        CHECK.due(statement, got, comment.split(": ")[0]);
    }

    private static String answer(String name, String arguments) {
        List<Object> values = new ArrayList<>();
        for (String argument : arguments.isEmpty() ? new String[0] : arguments.split(", ")) {
            boolean isSign = argument.startsWith("'");
            values.add(isSign ? (Object) argument.charAt(1) : (Object) Integer.parseInt(argument));
        }
        try {
            Object got = methodOf(name).invoke(river, values.toArray());
            return got instanceof Character ? "'" + got + "'" : String.valueOf(got);
        } catch (InvocationTargetException e) {
            return "throws " + e.getCause().getClass().getSimpleName();
        } catch (IllegalAccessException | IllegalArgumentException e) {
            return "is no call: " + e.getMessage();
        }
    }

    private static Method methodOf(String name) {
        for (Method method : RiverReaches.class.getDeclaredMethods()) {
            if (method.getName().equals(name)) {
                return method;
            }
        }
        throw new AssertionError("README.md calls " + name);
    }

    private static void everyCallIsTold(String page) {
        for (Method method : RiverReaches.class.getDeclaredMethods()) {
            if (Modifier.isPublic(method.getModifiers())) {
                String name = method.getName();
                CHECK.due(name + " is told", page.contains("`" + name + "("), true);
                CHECK.due(name + " has an example", page.contains("river." + name + "("), true);
            }
        }
    }
}
