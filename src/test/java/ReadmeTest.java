import java.io.IOException;
import java.lang.reflect.Method;
import java.lang.reflect.Modifier;
import java.nio.file.Files;
import java.nio.file.Path;
import java.util.LinkedHashSet;
import java.util.List;
import java.util.Map;
import java.util.Set;
import java.util.TreeMap;
import java.util.TreeSet;
import java.util.regex.Matcher;
import java.util.regex.Pattern;
import java.util.stream.Stream;

/** README.md: its example answers as it says; its tables have each call once, as the document tells it. */
public final class ReadmeTest {
    private static final Pattern TOWN = Pattern.compile("String town = \"([^\"]*)\";");
    private static final Pattern STEP = Pattern.compile("x\\.(\\w+)\\(([^;]*)\\);\\s*// (-?\\d+).*");
    private static final Pattern TABLED = Pattern.compile("\\| `(\\w+)\\(([\\w, ]*)\\)` \\|.*\\| (\\d+) \\| ([^|]*) \\|");
    private static final Pattern REFUSAL = Pattern.compile("\\b(FULL|STATE|NOTHING|BEYOND|UNLIKE|NOUGHT|SIZE)\\b");
    private static final Map<String, Method> METHODS = new TreeMap<>();
    private static int wrong = 0;

    private static void hold(boolean holds, String what) {
        if (!holds) {
            wrong++;
            System.out.println("not so: " + what);
        }
    }

    private static Object[] numbers(String list) {
        return Stream.of(list.split(", ")).filter(word -> !word.isEmpty()).map(Integer::valueOf).toArray();
    }

    // ---- the example

    private static void example(String readme) throws ReflectiveOperationException {
        int begin = readme.indexOf("```java");
        String[] lines = readme.substring(begin, readme.indexOf("```", begin + 3)).split("\n");
        EnemyByLot x = new EnemyByLot();
        String town = "";
        int steps = 0;
        for (String line : lines) {
            Matcher named = TOWN.matcher(line.strip());
            Matcher step = STEP.matcher(line.strip());
            if (named.matches()) {
                town = named.group(1);
            } else if (step.matches()) {
                steps++;
                long got = play(x, step.group(1), step.group(2), town);
                hold(got == Long.parseLong(step.group(3)), line.strip() + ", but it answered " + got);
            }
        }
        hold(steps >= 10, "the example has steps: " + steps);
    }

    private static long play(EnemyByLot x, String name, String args, String town) throws ReflectiveOperationException {
        if (name.equals("put")) {
            return write(x, town);
        }
        Object[] values = numbers(args.replace("town.length()", "" + town.length()));
        return ((Number) METHODS.get(name).invoke(x, values)).longValue();
    }

    /** What all of them answered, if they answered alike. */
    private static long write(EnemyByLot x, String town) {
        long answer = x.put(0, 0, town.charAt(0));
        for (int i = 1; i < town.length(); i++) {
            hold(x.put(0, i, town.charAt(i)) == answer, "put() of sign " + i + " answered alike");
        }
        return answer;
    }

    // ---- the tables

    /** In the order in which they are told first. */
    private static List<String> refusals(String text) {
        Set<String> found = new LinkedHashSet<>();
        Matcher matcher = REFUSAL.matcher(text);
        while (matcher.find()) {
            found.add(matcher.group(1));
        }
        return List.copyOf(found);
    }

    private static String section(String document, String head) {
        int begin = document.indexOf(head);
        if (begin < 0) {
            return "";
        }
        int end = document.indexOf("\n## ", begin);
        return document.substring(begin, end < 0 ? document.length() : end);
    }

    private static void tables(String readme, String document) {
        Set<String> missing = new TreeSet<>(METHODS.keySet());
        Matcher row = TABLED.matcher(readme);
        while (row.find()) {
            String name = row.group(1);
            hold(missing.remove(name), name + " is a call, and told once");
            String told = section(document, "## Promise " + row.group(3) + ": " + name + "\n");
            String args = row.group(2).isEmpty() ? "" : "int " + row.group(2).replace(", ", ", int ");
            hold(told.contains(" " + name + "(" + args + ")`"), name + " takes " + args + " by promise " + row.group(3));
            hold(refusals(row.group(4)).equals(refusals(told)), name + " is refused by " + refusals(told));
        }
        hold(missing.isEmpty(), "README.md tells all calls, but " + missing);
    }

    public static void main(String[] args) throws IOException, ReflectiveOperationException {
        Path root = Path.of(args.length > 0 ? args[0] : ".");
        String readme = Files.readString(root.resolve("README.md"));
        String document = Files.readString(root.resolve("../shared/DOC.md"));
        for (Method method : EnemyByLot.class.getDeclaredMethods()) {
            if (Modifier.isPublic(method.getModifiers())) {
                METHODS.put(method.getName(), method);
            }
        }
        example(readme);
        tables(readme, document);
        System.out.println(wrong == 0 ? "README.md tells how it is" : wrong + " sentences of README.md are not so");
        if (wrong != 0) {
            System.exit(1);
        }
    }
}
