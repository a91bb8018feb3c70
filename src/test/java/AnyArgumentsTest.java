import java.lang.reflect.InvocationTargetException;
import java.lang.reflect.Method;
import java.lang.reflect.Modifier;
import java.util.ArrayList;
import java.util.Arrays;
import java.util.List;
import java.util.Set;

/**
 * All calls with all sorts of arguments, in several states: none throws, and what is refused changes
 * nothing but finding(), findings().
 */
public final class AnyArgumentsTest {
    private static final int MIN = Integer.MIN_VALUE, MAX = Integer.MAX_VALUE;
    private static final int[] MANY = {MIN, MIN + 1, -65, -10, -9, -8, -2, -1, 0, 1, 2, 3, 4, 5, 6, 7, 8, 9, 10, 20, 21,
        30, 31, 39, 40, 41, 59, 60, 61, 63, 64, MAX - 1, MAX};
    private static final int[] SOME = {MIN, -1, 0, 1, 2, 3, 5, 6, 39, 40, 41, 59, 60, MAX};
    private static final int[] FEW = {MIN, -1, 0, 1, 3, 6, 40, MAX};
    private static final Set<String> CHANGES = Set.of("row", "lay", "tear", "copy", "text", "put", "town", "week",
        "exchange", "undo", "keep", "on", "mildest", "lots");
    private static final Set<String> TELLERS = Set.of("asked", "upper", "lower", "digest");
    private static final int STATES = 7;

    private static int wrong = 0;
    private static long calls = 0;

    private static void write(EnemyByLot x, int t, String town) {
        x.text(t, town.length());
        for (int i = 0; i < town.length(); i++) {
            x.put(t, i, town.charAt(i));
        }
    }

    private static void lay(EnemyByLot x, int r, int... values) {
        x.row(r, values.length);
        for (int i = 0; i < values.length; i++) {
            x.lay(r, i, values[i]);
        }
    }

    private static EnemyByLot with(String town) {
        EnemyByLot x = new EnemyByLot();
        write(x, 1, town);
        x.town(1);
        return x;
    }

    private static EnemyByLot state(int number) {
        EnemyByLot x;
        switch (number) {
            case 0:
                return new EnemyByLot();
            case 1:
                x = new EnemyByLot();
                x.row(0, 0);
                x.row(1, 40);
                x.text(0, 0);
                x.text(3, 60);
                lay(x, 5, MIN, MAX);
                return x;
            case 2:
                return with("p111p110o01");
            case 3:
                x = with("p95- p95-");
                lay(x, 0, 1, 0);
                lay(x, 5, 2, 2);
                x.keep(2);
                return x;
            case 4:
                x = with("p331 z222 s413 h544 w255 l340 o03 o12");
                lay(x, 0, 1, 1, 2, 0, 2, 2);
                lay(x, 1, 3, 6, 16, 32);
                lay(x, 3, 3, 0, 5, 1, 2, 4);
                x.week(0);
                x.keep(0);
                x.lots(5, 3);
                return x;
            case 5:
                x = with("p911 z912 s913 h914 w915 l91-");
                lay(x, 0, 0, 0, 0, 0, 0, 0);
                lay(x, 2, 1, 2, 3, 4, 5, -9);
                x.row(4, 40);
                x.lots(20, 9);
                x.keep(1);
                x.lots(20, 2147483646);
                return x;
            default:
                x = with("p11-p11-p11-p11-p11-p11-o01o02o03o04o05o12o13o14");
                lay(x, 0, 1, 1, 1, 1, 1, 1);
                x.week(0);
                lay(x, 1, 63, 63, 0, 0);
                lay(x, 2, 1, 1);
                return x;
        }
    }

    private static long[] look(EnemyByLot x) {
        long[] seen = {x.digest(), x.asked(), x.upper(), x.lower()};
        return seen;
    }

    private static long findings(EnemyByLot x) {
        long all = 0;
        for (int f = 1; f <= 5; f++) {
            all += x.findings(f);
        }
        return all;
    }

    private static void fail(int state, Method method, Object[] args, String what) {
        wrong++;
        if (wrong <= 40) {
            System.out.println("state " + state + ": " + method.getName() + Arrays.toString(args) + " " + what);
        }
    }

    /** Whether the object is still as it was built. */
    private static boolean call(EnemyByLot x, int state, Method method, Object[] args) throws IllegalAccessException {
        calls++;
        long[] before = look(x);
        long found = findings(x);
        long answer;
        try {
            answer = ((Number) method.invoke(x, args)).longValue();
        } catch (InvocationTargetException thrown) {
            fail(state, method, args, "threw " + thrown.getCause());
            return false;
        }
        boolean refused = !TELLERS.contains(method.getName()) && answer < 0 && answer > -9;
        if (refused && !Arrays.equals(before, look(x))) {
            fail(state, method, args, "was refused by " + answer + ", but changed something");
        }
        if (refused && answer != -1 && answer != -2 && answer != -3 && answer != -4) {
            fail(state, method, args, "answered " + answer);
        }
        if (findings(x) != found + (refused && answer == -3 ? 1 : 0)) {
            fail(state, method, args, "answered " + answer + " with other findings()");
        }
        boolean mayChange = CHANGES.contains(method.getName());
        if (!mayChange && before[0] != x.digest()) {
            fail(state, method, args, "changed the digest()");
        }
        return refused || !mayChange;
    }

    private static void allOf(int state, Method method) throws IllegalAccessException {
        int number = method.getParameterCount();
        int[] values = number <= 2 ? MANY : number == 3 ? SOME : FEW;
        int[] at = new int[number];
        EnemyByLot x = state(state);
        boolean more = true;
        while (more) {
            Object[] args = new Object[number];
            for (int i = 0; i < number; i++) {
                args[i] = values[at[i]];
            }
            if (!call(x, state, method, args)) {
                x = state(state);
            }
            int i = 0;
            while (i < number && ++at[i] == values.length) {
                at[i] = 0;
                i++;
            }
            more = i < number;
        }
    }

    public static void main(String[] args) throws IllegalAccessException {
        List<Method> methods = new ArrayList<>();
        for (Method method : EnemyByLot.class.getDeclaredMethods()) {
            if (Modifier.isPublic(method.getModifiers())) {
                methods.add(method);
            }
        }
        for (int state = 0; state < STATES; state++) {
            for (Method method : methods) {
                allOf(state, method);
            }
        }
        System.out.println(wrong == 0 ? calls + " calls with any arguments are calm" : wrong + " calls are not");
        if (wrong != 0) {
            System.exit(1);
        }
    }
}
