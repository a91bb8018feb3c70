import java.io.IOException;
import java.lang.reflect.InvocationTargetException;
import java.lang.reflect.Method;
import java.lang.reflect.Modifier;
import java.math.BigInteger;
import java.nio.file.Files;
import java.nio.file.Path;
import java.util.ArrayList;
import java.util.Arrays;
import java.util.HashMap;
import java.util.HashSet;
import java.util.List;
import java.util.Map;
import java.util.Set;
import java.util.regex.Matcher;
import java.util.regex.Pattern;
import java.util.stream.Collectors;
import java.util.stream.Stream;

/**
 * Plays the scripts under src/test/edges: a case for each boundary that the document's sentences name,
 * each on a new object. README.md tells the form of a script.
 *
 * Each case is played twice: plainly, in at most 512 calls; then with a look around each call, whether
 * it changed what it may not change.
 */
public final class EdgeTest {
    private static final int MOST_CALLS = 512, PROMISES = 42, FINDING = -3;
    private static final Map<String, Long> NAMES = new HashMap<>();
    private static final List<String> FINDINGS = List.of("", "NOTHING", "BEYOND", "UNLIKE", "NOUGHT", "SIZE");
    private static final Set<Long> REFUSALS = Set.of(-1L, -2L, -3L, -4L);
    private static final Set<String> TELLERS = Set.of("asked", "upper", "lower", "finding", "findings", "digest");
    private static final Set<String> ASKED = Set.of("lay", "at", "mean", "person", "rings", "ways", "wishes", "ask");
    private static final Set<String> CHANCES = Set.of("maps", "odds", "both", "fits");
    private static final Set<String> CHANGES = Set.of("row", "lay", "tear", "copy", "text", "put", "town", "week",
        "exchange", "undo", "keep", "on", "mildest", "lots");
    private static final Map<String, Method> METHODS = new HashMap<>();
    private static final Pattern CALL = Pattern.compile("(\\w+)\\(([^)]*)\\)(?: = (\\S+))?(?: asked (\\S+))?(?: chance (\\S+)/(\\S+))?");
    private static final Pattern QUOTED = Pattern.compile("(text \\d|town|fault) \"([^\"]*)\"(?: = (\\S+))?");
    private static final Pattern LISTED = Pattern.compile("(row \\d|week|each \\d|places \\d|counts|digest):((?: \\S+)*?)(?: = (\\S+))?");

    private static int wrong = 0;
    private static int cases = 0;

    private final String title;
    private final boolean watched;
    private final EnemyByLot x = new EnemyByLot();
    private int calls = 0;

    private EdgeTest(String title, boolean watched) {
        this.title = title;
        this.watched = watched;
    }

    private void fail(String what) {
        wrong++;
        System.out.println(title + (watched ? " (watched): " : ": ") + what);
    }

    private void due(String call, long got, long want) {
        if (got != want) {
            fail(call + " answered " + got + ", due is " + want);
        }
    }

    private static long value(String word) {
        Long named = NAMES.get(word);
        return named != null ? named : Long.parseLong(word);
    }

    // ---- one call

    private long invoke(String name, long... args) {
        Method method = METHODS.get(name);
        if (method == null || method.getParameterCount() != args.length) {
            throw new IllegalStateException(title + ": no call " + name + Arrays.toString(args));
        }
        Object[] boxed = new Object[args.length];
        for (int i = 0; i < args.length; i++) {
            boxed[i] = Math.toIntExact(args[i]);
        }
        try {
            return ((Number) method.invoke(x, boxed)).longValue();
        } catch (InvocationTargetException thrown) {
            fail(name + Arrays.toString(args) + " threw " + thrown.getCause());
            return Long.MIN_VALUE;
        } catch (IllegalAccessException hidden) {
            throw new IllegalStateException(hidden);
        }
    }

    /** digest(), asked(), upper(), lower(), finding(), findings(1) .. findings(5). */
    private long[] look() {
        long[] seen = {x.digest(), x.asked(), x.upper(), x.lower(), x.finding(), 0, 0, 0, 0, 0};
        for (int f = 1; f <= 5; f++) {
            seen[4 + f] = x.findings(f);
        }
        return seen;
    }

    private long play(String name, long... args) {
        calls++;
        if (!watched) {
            return invoke(name, args);
        }
        long[] before = look();
        long answer = invoke(name, args);
        watch(name + Arrays.toString(args), name, answer, before, look());
        return answer;
    }

    private void watch(String call, String name, long answer, long[] before, long[] after) {
        boolean refused = !TELLERS.contains(name) && REFUSALS.contains(answer);
        if (refused || !CHANGES.contains(name)) {
            due("digest() behind " + call, after[0], before[0]);
        }
        if (refused || !ASKED.contains(name)) {
            due("asked() behind " + call, after[1], before[1]);
        }
        if (refused || !CHANCES.contains(name)) {
            due("upper() behind " + call, after[2], before[2]);
            due("lower() behind " + call, after[3], before[3]);
        }
        BigInteger common = BigInteger.valueOf(after[2]).gcd(BigInteger.valueOf(after[3]));
        due("what both numbers of a chance share behind " + call, common.longValue(), 1);
        due("lower() above 0 behind " + call, Long.signum(after[3]), 1);
        if (refused && answer == FINDING) {
            for (int f = 1; f <= 5; f++) {
                due("findings(" + f + ") behind " + call, after[4 + f], before[4 + f] + (after[4] == f ? 1 : 0));
            }
        } else {
            due("finding() behind " + call, after[4], before[4]);
            for (int f = 1; f <= 5; f++) {
                due("findings(" + f + ") behind " + call, after[4 + f], before[4 + f]);
            }
        }
    }

    /** A call that the case only needs on its way: it may not be refused. */
    private void step(String name, long... args) {
        long answer = play(name, args);
        if (REFUSALS.contains(answer)) {
            fail(name + Arrays.toString(args) + " was refused by " + answer);
        }
    }

    private void expect(String call, long got, String want) {
        if (want == null) {
            if (REFUSALS.contains(got)) {
                fail(call + " was refused by " + got);
            }
        } else if (FINDINGS.contains(want)) {
            due(call, got, FINDING);
            due(call + ", finding()", play("finding"), FINDINGS.indexOf(want));
        } else {
            due(call, got, value(want));
        }
    }

    // ---- lines of a script

    private void line(String line) {
        Matcher times = Pattern.compile("(\\d+) times (.*)").matcher(line);
        if (times.matches()) {
            for (int i = 0; i < Integer.parseInt(times.group(1)); i++) {
                line(times.group(2));
            }
            return;
        }
        Matcher call = CALL.matcher(line);
        Matcher quoted = QUOTED.matcher(line);
        Matcher listed = LISTED.matcher(line);
        if (call.matches()) {
            callLine(line, call);
        } else if (quoted.matches()) {
            quotedLine(line, quoted.group(1), quoted.group(2), quoted.group(3));
        } else if (listed.matches()) {
            long[] values = Stream.of(listed.group(2).trim().split(" +")).filter(word -> !word.isEmpty())
                .mapToLong(EdgeTest::value).toArray();
            listedLine(line, listed.group(1), values, listed.group(3));
        } else {
            throw new IllegalStateException(title + ": no such line: " + line);
        }
    }

    private void callLine(String line, Matcher call) {
        long[] args = Stream.of(call.group(2).split(", ")).filter(word -> !word.isEmpty())
            .mapToLong(EdgeTest::value).toArray();
        expect(line, play(call.group(1), args), call.group(3));
        if (call.group(4) != null) {
            due(line + ", asked()", play("asked"), value(call.group(4)));
        }
        if (call.group(5) != null) {
            due(line + ", upper()", play("upper"), value(call.group(5)));
            due(line + ", lower()", play("lower"), value(call.group(6)));
        }
    }

    private void write(int t, String text) {
        step("text", t, text.length());
        for (int i = 0; i < text.length(); i++) {
            if (text.charAt(i) != ' ') {
                step("put", t, i, text.charAt(i));
            }
        }
    }

    private void quotedLine(String line, String verb, String text, String want) {
        if (verb.startsWith("text")) {
            write(verb.charAt(5) - '0', text);
            return;
        }
        write(0, text);
        if (verb.equals("town")) {
            expect(line, play("town", 0), want);
            return;
        }
        expect(line, play("fault", 0), want);
        long persons = play("town", 0);
        if (want.equals("NONE") ? persons < 2 : persons != value("STATE")) {
            fail(line + ", but town() answered " + persons);
        }
    }

    private void listedLine(String line, String verb, long[] values, String want) {
        int number = verb.indexOf(' ') < 0 ? 5 : verb.charAt(verb.length() - 1) - '0';
        switch (verb.replaceAll(" .*", "")) {
            case "row":
                fill(number, values);
                break;
            case "week":
                fill(5, values);
                expect(line, play("week", 5), want);
                break;
            case "each":
                due(line + ": how many PERSONS", play("count", 0), values.length);
                for (int p = 0; p < values.length; p++) {
                    due(line + ": person(" + p + ")", play("person", p, number), 1);
                    due(line + ": of PERSON " + p, play("asked"), values[p]);
                }
                break;
            case "places":
                for (int i = 0; i < values.length; i++) {
                    due(line + ": at(" + i + ")", play("at", number, i), 1);
                    due(line + ": place " + i, play("asked"), values[i]);
                }
                expect(line + ": its size", play("at", number, values.length), "BEYOND");
                break;
            case "counts":
                for (int what = 0; what < values.length; what++) {
                    due(line + ": count(" + what + ")", play("count", what), values[what]);
                }
                break;
            default:
                long h = 17;
                for (long v : values) {
                    h = 31 * h + v;
                }
                due(line, play("digest"), h);
                break;
        }
    }

    private void fill(int r, long[] values) {
        step("row", r, values.length);
        for (int i = 0; i < values.length; i++) {
            if (values[i] != 0) {
                step("lay", r, i, values[i]);
            }
        }
    }

    // ---- all scripts

    private static void playCase(String title, List<String> lines) {
        cases++;
        for (boolean watched : new boolean[] {false, true}) {
            EdgeTest test = new EdgeTest(title, watched);
            lines.forEach(test::line);
            if (!watched && test.calls > MOST_CALLS) {
                test.fail("it takes " + test.calls + " calls");
            }
        }
    }

    private static void playScript(Path script) throws IOException {
        String title = null;
        List<String> lines = new ArrayList<>();
        Set<String> titles = new HashSet<>();
        List<String> all = new ArrayList<>(Files.readAllLines(script));
        all.add("== the end");
        for (String line : all) {
            if (!line.startsWith("== ")) {
                if (!line.isBlank() && !line.startsWith("#")) {
                    lines.add(line.strip());
                }
                continue;
            }
            if (title != null) {
                if (!titles.add(title) || lines.isEmpty()) {
                    throw new IllegalStateException(title + ": told twice, or without lines");
                }
                playCase(script.getFileName() + ", " + title, lines);
            }
            title = line.substring(3);
            lines = new ArrayList<>();
        }
        if (titles.isEmpty()) {
            throw new IllegalStateException(script + " is without cases");
        }
    }

    private static void prepare() {
        String[] names = {"BAD", "FULL", "STATE", "NONE", "MIN", "MAX"};
        long[] values = {-1, -2, -4, -9, Integer.MIN_VALUE, Integer.MAX_VALUE};
        for (int i = 0; i < names.length; i++) {
            NAMES.put(names[i], values[i]);
        }
        for (Method method : EnemyByLot.class.getDeclaredMethods()) {
            if (Modifier.isPublic(method.getModifiers())) {
                METHODS.put(method.getName(), method);
            }
        }
    }

    public static void main(String[] args) throws IOException {
        prepare();
        Path edges = Path.of(args.length > 0 ? args[0] : ".").resolve("src/test/edges");
        List<Path> scripts;
        try (Stream<Path> files = Files.list(edges)) {
            scripts = files.sorted().collect(Collectors.toList());
        }
        Set<String> numbers = scripts.stream().map(s -> s.getFileName().toString().substring(0, 2)).collect(Collectors.toSet());
        for (int promise = 0; promise <= PROMISES; promise++) {
            if (!numbers.contains(String.format("%02d", promise))) {
                wrong++;
                System.out.println("no script for promise " + promise + " (0: the Terms)");
            }
        }
        for (Path script : scripts) {
            playScript(script);
        }
        System.out.println(wrong == 0 ? cases + " edges are as due" : wrong + " answers are not as due");
        if (wrong != 0) {
            System.exit(1);
        }
    }
}
