import java.io.IOException;
import java.lang.management.ManagementFactory;
import java.lang.reflect.Array;
import java.lang.reflect.Constructor;
import java.lang.reflect.Field;
import java.lang.reflect.Method;
import java.lang.reflect.Modifier;
import java.nio.file.Files;
import java.nio.file.Path;
import java.util.ArrayDeque;
import java.util.Collections;
import java.util.Deque;
import java.util.IdentityHashMap;
import java.util.Set;
import java.util.TreeSet;
import java.util.regex.Matcher;
import java.util.regex.Pattern;

/** The document's face, what of LANGUAGE.md can be seen from outside, and the room that runs take. */
public final class LanguageTest {
    private static int wrong = 0;

    private static void hold(boolean holds, String what) {
        if (!holds) {
            wrong++;
            System.out.println("not so: " + what);
        }
    }

    private static final String FACE = "int row(int,int)|int lay(int,int,int)|int at(int,int)|int tear(int)"
        + "|int copy(int,int,int,int,int)|int mean(int)|int text(int,int)|int put(int,int,int)|int fault(int)"
        + "|int town(int)|int person(int,int)|int mark(int,int)|int strength(int,int)|int week(int)"
        + "|int exchange(int,int)|int undo(int)|int keep(int)|int on(int)|int rings()|int allies(int)|int safe()"
        + "|int weeks(int,int)|int thwart(int,int)|int ways(int,int)|int wishes()|int mildest(int)|int none(int)"
        + "|int maps()|int odds(int,int)|int both(int,int)|int fits(int)|int sure(int,int)|int ask(int)"
        + "|int lots(int,int)|int asked()|long upper()|long lower()|int count(int)|int finding()|int findings(int)"
        + "|long digest()";

    private static String signature(Method method) {
        StringBuilder text = new StringBuilder();
        text.append(method.getReturnType().getName()).append(' ').append(method.getName()).append('(');
        for (int i = 0; i < method.getParameterCount(); i++) {
            text.append(i == 0 ? "" : ",").append(method.getParameterTypes()[i].getName());
        }
        return text.append(')').toString();
    }

    private static void face() {
        Class<?> face = EnemyByLot.class;
        Set<String> methods = new TreeSet<>();
        Set<String> publicNames = new TreeSet<>();
        for (Method method : face.getDeclaredMethods()) {
            if (!Modifier.isPrivate(method.getModifiers())) {
                hold(Modifier.isPublic(method.getModifiers()), method + " is public or private");
                methods.add(signature(method));
                publicNames.add(method.getName());
            }
        }
        hold(methods.equals(new TreeSet<>(Set.of(FACE.split("\\|")))), "the methods are the document's: " + methods);
        for (Method method : face.getDeclaredMethods()) {
            boolean hidden = Modifier.isPrivate(method.getModifiers());
            hold(!hidden || !publicNames.contains(method.getName()), method + " has a name of its own");
        }
        Set<String> constants = new TreeSet<>();
        for (Field field : face.getDeclaredFields()) {
            if (!Modifier.isPrivate(field.getModifiers())) {
                constants.add(Modifier.toString(field.getModifiers()) + " " + field.getType() + " " + field.getName());
            }
        }
        Set<String> due = new TreeSet<>();
        for (String name : "BAD FULL FINDING STATE SPENT NONE".split(" ")) {
            due.add("public static final int " + name);
        }
        hold(constants.equals(due), "the constants are the document's: " + constants);
        Constructor<?>[] made = face.getDeclaredConstructors();
        hold(made.length == 1 && Modifier.isPublic(made[0].getModifiers()) && made[0].getParameterCount() == 0,
            "one public constructor");
        hold(Modifier.isPublic(face.getModifiers()) && Modifier.isFinal(face.getModifiers()), "public and final");
    }

    private static void classes() {
        Class<?>[] inside = EnemyByLot.class.getDeclaredClasses();
        hold(inside.length <= 12, "twelve classes at most");
        checkClass(EnemyByLot.class);
        for (Class<?> c : inside) {
            hold(Modifier.isStatic(c.getModifiers()) && !Modifier.isPublic(c.getModifiers()), c + " is static, not public");
            checkClass(c);
        }
    }

    private static void checkClass(Class<?> c) {
        int fields = 0;
        for (Field field : c.getDeclaredFields()) {
            if (!Modifier.isStatic(field.getModifiers())) {
                fields++;
            } else {
                hold(Modifier.isFinal(field.getModifiers()), field + " is final");
            }
        }
        hold(fields <= 20, c + " has twenty fields at most");
        for (Method method : c.getDeclaredMethods()) {
            hold(method.getParameterCount() <= 7, method + " takes seven parameters at most");
            hold(!Set.of("equals", "hashCode", "toString").contains(method.getName()), c + " has no " + method.getName());
        }
    }

    private static void source(Path path) throws IOException {
        String source = Files.readString(path);
        for (int i = 0; i < source.length(); i++) {
            hold(source.charAt(i) < 128, "signs below 128 alone");
        }
        String code = source.replaceAll("(?s)/\\*.*?\\*/", "").replaceAll("//[^\n]*", "");
        String banned = "throw|throws|try|catch|finally|synchronized|assert|package|volatile|native|transient|Object|"
            + "System\\.(?!arraycopy)|\\w+Exact|->|::|new\\s+\\w+\\s*\\([^)]*\\)\\s*\\{|@|\"";
        Matcher matcher = Pattern.compile("(?<!\\w)(" + banned + ")(?!\\w)").matcher(code);
        while (matcher.find()) {
            hold(false, "the source is without " + matcher.group());
        }
        matcher = Pattern.compile("import ([^;]*);").matcher(code);
        while (matcher.find()) {
            hold(matcher.group(1).equals("java.util.Arrays"), "import " + matcher.group(1));
        }
        methodLengths(source);
    }

    private static void methodLengths(String source) {
        String[] lines = source.split("\n");
        for (int i = 0; i < lines.length; i++) {
            if (!lines[i].matches(" {4}( {4})?[\\w].*\\) \\{")) {
                continue;
            }
            String end = lines[i].replaceAll("^( *).*", "$1}");
            int last = i;
            while (last < lines.length && !lines[last].equals(end)) {
                last++;
            }
            hold(last - i < 60, "sixty lines at most: " + lines[i].trim());
        }
    }

    /** Objects and arrays, fields and elements that one object keeps. */
    private static void roomOfOne() throws IllegalAccessException {
        Set<Object> seen = Collections.newSetFromMap(new IdentityHashMap<>());
        Deque<Object> open = new ArrayDeque<>();
        long elements = 0;
        open.add(new EnemyByLot());
        while (!open.isEmpty()) {
            Object one = open.remove();
            if (!seen.add(one)) {
                continue;
            }
            if (one.getClass().isArray()) {
                int length = Array.getLength(one);
                elements += length;
                for (int i = 0; i < length && !one.getClass().getComponentType().isPrimitive(); i++) {
                    open.add(Array.get(one, i));
                }
                continue;
            }
            for (Field field : one.getClass().getDeclaredFields()) {
                if (Modifier.isStatic(field.getModifiers())) {
                    continue;
                }
                elements++;
                field.setAccessible(true);
                if (!field.getType().isPrimitive()) {
                    open.add(field.get(one));
                }
            }
        }
        hold(seen.size() <= 100, "a hundred objects at most: " + seen.size());
        hold(elements <= 5000, "five thousand elements at most: " + elements);
    }

    private static long callAll(EnemyByLot x, int a, int b) {
        long sum = x.row(a, b) + x.lay(a, b, a) + x.at(a, b) + x.copy(a, 0, b, 0, 1) + x.mean(a);
        sum += x.text(3, b) + x.put(3, a, b) + x.fault(0) + x.town(0) + x.person(a, b) + x.mark(a, b);
        sum += x.strength(a, b) + x.week(5) + x.exchange(a, b) + x.keep(a) + x.lots(9, 1 + a) + x.undo(3) + x.on(a);
        sum += x.rings() + x.allies(a) + x.safe() + x.weeks(a, b) + x.thwart(a, b) + x.ways(a, b) + x.wishes();
        sum += x.mildest(4) + x.none(4) + x.maps() + x.odds(a, b) + x.both(a, b);
        sum += x.row(3, 0) + x.fits(3) + x.sure(a, 3) + x.ask(3) + x.tear(a);
        return sum + x.count(a) + x.findings(a) + x.finding() + x.asked() + x.upper() + x.lower() + x.digest();
    }

    /** Calls make no objects. */
    private static void roomOfCalls() {
        EnemyByLot x = new EnemyByLot();
        String town = "p331 z222 s413 h544 w255 l340 o03 o12";
        x.text(0, town.length());
        for (int i = 0; i < town.length(); i++) {
            x.put(0, i, town.charAt(i));
        }
        x.row(5, 6);
        com.sun.management.ThreadMXBean threads = (com.sun.management.ThreadMXBean) ManagementFactory.getThreadMXBean();
        long id = Thread.currentThread().getId();
        callAll(x, 0, 1);
        long least = Long.MAX_VALUE;
        for (int round = 0; round < 5; round++) {
            long before = threads.getThreadAllocatedBytes(id);
            for (int i = 0; i < 49; i++) {
                callAll(x, i / 7 - 1, i % 7 - 1);
            }
            least = Math.min(least, threads.getThreadAllocatedBytes(id) - before);
        }
        hold(least < 2000, "calls make no objects: " + least + " bytes");
    }

    public static void main(String[] args) throws IOException, IllegalAccessException {
        Path root = Path.of(args.length > 0 ? args[0] : ".");
        face();
        classes();
        source(root.resolve("src/main/java/EnemyByLot.java"));
        roomOfOne();
        roomOfCalls();
        System.out.println(wrong == 0 ? "the language is kept" : wrong + " rules are not kept");
        if (wrong != 0) {
            System.exit(1);
        }
    }
}
