import java.io.IOException;
import java.lang.reflect.Method;
import java.lang.reflect.Modifier;
import java.nio.charset.StandardCharsets;
import java.nio.file.Files;
import java.nio.file.Path;
import java.util.HashMap;
import java.util.Map;
import java.util.Set;
import java.util.TreeSet;
import java.util.regex.Matcher;
import java.util.regex.Pattern;

/** Runs each line of Java in README.md, and looks whether each public method of the class is told there. */
public final class ReadmeTest {
    private static final Pattern FRESH = Pattern.compile("PutBack phone = new PutBack\\(\\);");
    private static final Pattern FED = Pattern.compile(
        "for \\(char sign : \"([^\"]*)\"\\.toCharArray\\(\\)\\) phone\\.feed\\(sign\\);");
    private static final Pattern CALL = Pattern.compile(
        "(?:(?:int|long) (\\w+) = )?phone\\.(\\w+)\\(([^()]*)\\); +// (-?\\d+)(?::? .*)?");
    private static final Pattern TOLD = Pattern.compile("^\\| `(\\w+)\\(([\\w, ]*)\\)` \\| .+ \\|$");

    private static final Map<String, Long> names = new HashMap<>();
    private static PutBack phone = new PutBack();
    private static int asked = 0;
    private static int wrong = 0;

    private static void fault(String what) {
        wrong++;
        System.out.println("README.md: " + what);
    }

    private static Method methodOf(String name, int size) {
        for (Method m : PutBack.class.getDeclaredMethods()) {
            boolean isPublic = Modifier.isPublic(m.getModifiers());
            if (isPublic && m.getName().equals(name) && m.getParameterCount() == size) {
                return m;
            }
        }
        return null;
    }

    private static Object argumentOf(String text, Class<?> type) {
        if (type == boolean.class) {
            return Boolean.valueOf(text);
        }
        if (text.matches("'.'")) {
            return (int) text.charAt(1);
        }
        return names.containsKey(text) ? (int) (long) names.get(text) : Integer.valueOf(text);
    }

    private static String[] parted(String arguments) {
        return arguments.isBlank() ? new String[0] : arguments.trim().split(", *");
    }

    private static void ask(Matcher call, String line) throws ReflectiveOperationException {
        String[] given = parted(call.group(3));
        Method method = methodOf(call.group(2), given.length);
        if (method == null) {
            fault("no such call: " + line);
            return;
        }
        Object[] arguments = new Object[given.length];
        for (int k = 0; k < given.length; k++) {
            arguments[k] = argumentOf(given[k], method.getParameterTypes()[k]);
        }
        long answer = ((Number) method.invoke(phone, arguments)).longValue();
        asked++;
        if (answer != Long.parseLong(call.group(4))) {
            fault(line + " .. answers " + answer);
        }
        if (call.group(1) != null) {
            names.put(call.group(1), answer);
        }
    }

    private static void runLine(String line) throws ReflectiveOperationException {
        Matcher fed = FED.matcher(line);
        Matcher call = CALL.matcher(line);
        if (FRESH.matcher(line).matches()) {
            phone = new PutBack();
            names.clear();
        } else if (fed.matches()) {
            for (char sign : fed.group(1).toCharArray()) {
                phone.feed(sign);
            }
        } else if (call.matches()) {
            ask(call, line);
        } else {
            fault("a line that is not tested: " + line);
        }
    }

    private static void lookAtCalls(Set<String> told) {
        Set<String> face = new TreeSet<>();
        for (Method m : PutBack.class.getDeclaredMethods()) {
            if (Modifier.isPublic(m.getModifiers())) {
                face.add(m.getName() + "/" + m.getParameterCount());
            }
        }
        face.add("PutBack/0");
        if (!told.equals(face)) {
            fault("tells " + told + ", the face is " + face);
        }
    }

    /** Each test is named, and nothing is named that is none. */
    private static void lookAtTests(String readme) throws IOException {
        Set<String> named = new TreeSet<>();
        Matcher row = Pattern.compile("(?m)^\\| `(\\w+Test)` \\|").matcher(readme);
        while (row.find()) {
            named.add(row.group(1) + ".java");
        }
        Set<String> there = new TreeSet<>();
        try (var files = Files.list(Path.of("src/test/java"))) {
            files.forEach(file -> there.add(file.getFileName().toString()));
        }
        if (!named.equals(there)) {
            fault("names " + named + ", there are " + there);
        }
    }

    public static void main(String[] args) throws IOException, ReflectiveOperationException {
        String readme = Files.readString(Path.of("README.md"), StandardCharsets.UTF_8);
        Set<String> told = new TreeSet<>();
        boolean isJava = false;
        for (String line : readme.split("\n")) {
            Matcher row = TOLD.matcher(line);
            if (line.startsWith("```")) {
                isJava = line.equals("```java");
            } else if (isJava) {
                runLine(line);
            } else if (row.matches()) {
                told.add(row.group(1) + "/" + parted(row.group(2)).length);
            }
        }
        lookAtCalls(told);
        lookAtTests(readme);
        System.out.println(wrong == 0 && asked > 0 ? "all " + asked + " answers are as README.md tells" : wrong + " things are not so");
        if (wrong != 0 || asked == 0) {
            System.exit(1);
        }
    }
}
