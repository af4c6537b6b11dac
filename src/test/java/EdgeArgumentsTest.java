import java.lang.reflect.InvocationTargetException;
import java.lang.reflect.Method;
import java.util.Arrays;
import java.util.List;

/**
 * Every call with numbers at, below and above each edge, in all combinations:
 * it answers as the naive school does, and throws nothing of its own.
 */
public final class EdgeArgumentsTest {
    private static final Check CHECK = new Check();
    private static final int MIN = Integer.MIN_VALUE;
    private static final int MAX = Integer.MAX_VALUE;
    private static final int MOST_CALLS = 512;
    private static final int[] HANDS = {MIN, -1, 0, 1, 2, 3, MAX};
    private static final int[] FEW = {MIN, -1, 0, 1, 2, 3, 4, MAX};
    private static final int[] PLACES = {MIN, -1, 0, 3, 4, MAX};
    private static final int[] LOCKS = {MIN, -1, 0, 2, 3, MAX};
    private static final int[] DIGITS = {MIN, -1, 0, 1, 8, 9, 10, MAX};
    private static final int[] STATEMENTS = {MIN, -1, 0, 1, 2, 3, 7, 8, 9, MAX};
    private static final int[] SHELVES = {MIN, -1, 0, 1, 2, 3, 7, 8, MAX};
    private static final int[] SIZES = {MIN, -1, 0, 1, 2, 59, 60, 61, MAX};
    private static final int[] STATES = {MIN, -1, 0, 1, 2, 20, 40, 1999, 2000, MAX};
    private static final int[] WHATS = {MIN, -1, 0, 1, 2, 3, 4, 5, 6, 7, MAX};
    private static final int[] KINDS = {MIN, -1, 0, 1, 2, 3, 4, 5, 6, 7, 8, 9, 10, 11, 12, 13, MAX};

    private static TurnSchool school;
    private static NaiveSchool naive;
    private static int calls;

    public static void main(String[] args) {
        each("puzzle", true, FEW);
        each("code", true, HANDS, KINDS, PLACES, DIGITS);
        each("uncode", true, HANDS);
        each("value", true, PLACES, DIGITS);
        each("told", false, HANDS, STATEMENTS, FEW);
        each("go", false, HANDS);
        each("see", false, WHATS, FEW);
        each("states", false, WHATS);
        each("count", false, FEW);
        each("nth", false, FEW, STATES);
        each("way", false, STATES);
        each("step", false, STATES, STATEMENTS);
        each("lead", false, STATES);
        each("race", false, HANDS, HANDS);
        each("always", false, HANDS, STATEMENTS, PLACES, DIGITS);
        each("can", false, WHATS, PLACES, DIGITS);
        each("fix", false, LOCKS, PLACES, DIGITS);
        each("fixed", false, HANDS, HANDS);
        each("answer", false, PLACES, DIGITS, new int[] {0, 1});
        each("cost", false, WHATS);
        each("keep", false, SHELVES, WHATS, HANDS, STATEMENTS);
        each("make", false, SHELVES, WHATS, SIZES);
        each("element", false, SHELVES, SIZES);
        each("copy", false, new int[] {-1, 0, 1, 2, 3, 8}, FEW, new int[] {-1, 0, 1, 2, 3, 8}, FEW, FEW);
        each("weight", false, SHELVES);
        each("toss", false, SHELVES);
        CHECK.end();
    }

    /** A small puzzle under way, and shelves that hold longs, shorts, a statement, and nothing. */
    private static void renew() {
        school = new TurnSchool();
        naive = new NaiveSchool();
        calls = 0;
        int[][] recipe = {{0, 6, 0, 1}, {0, 8, 2, 0}, {1, 6, 0, 1}, {1, 9, 2, 0}, {1, 4, 0, 8}};
        ask("puzzle", 2);
        for (int[] statement : recipe) {
            ask("code", statement);
        }
        ask("value", 3, 9);
        ask("keep", 0, 3, 0, 0);
        ask("keep", 1, 4, 1, 0);
        ask("keep", 2, 1, 0, 1);
        ask("go", 0);
        ask("go", 1);
    }

    /** All combinations of numbers; a call that makes another puzzle gets a new object each time. */
    private static void each(String name, boolean anew, int[]... edges) {
        renew();
        int[] at = new int[edges.length];
        boolean more = true;
        while (more) {
            if (anew || calls > MOST_CALLS - 40) {
                renew();
            }
            int[] numbers = new int[edges.length];
            for (int k = 0; k < edges.length; k++) {
                numbers[k] = edges[k][at[k]];
            }
            ask(name, numbers);
            look();
            more = advanced(at, edges);
        }
    }

    private static boolean advanced(int[] at, int[][] edges) {
        for (int k = edges.length - 1; k >= 0; k--) {
            at[k]++;
            if (at[k] < edges[k].length) {
                return true;
            }
            at[k] = 0;
        }
        return false;
    }

    /** What a call could have changed. */
    private static void look() {
        ask("see", 0, 0);
        ask("see", 2, 1);
        ask("see", 5, 3);
        ask("element", 0, 3);
        ask("element", 1, 1);
        ask("weight", 2);
        ask("cost", 0);
    }

    private static void ask(String name, int... numbers) {
        calls++;
        CHECK.same(name + Arrays.toString(numbers), answer(school, name, numbers), answer(naive, name, numbers));
    }

    private static String answer(Object object, String name, int[] numbers) {
        Object[] arguments = Arrays.stream(numbers).boxed().toArray();
        if (name.equals("answer")) {
            arguments[2] = numbers[2] == 1;
        }
        try {
            return methodOf(object, name).invoke(object, arguments).toString();
        } catch (InvocationTargetException thrown) {
            return thrown.getCause().getClass().getSimpleName();
        } catch (IllegalAccessException hidden) {
            throw new IllegalStateException(hidden);
        }
    }

    private static Method methodOf(Object object, String name) {
        List<Method> methods = object instanceof TurnSchool ? OF_SCHOOL : OF_NAIVE;
        for (Method method : methods) {
            if (method.getName().equals(name) && method.getParameterCount() > 0 && method.getParameterTypes()[0] == int.class) {
                return method;
            }
        }
        throw new IllegalStateException("no such call: " + name);
    }

    private static final List<Method> OF_SCHOOL = List.of(TurnSchool.class.getDeclaredMethods());
    private static final List<Method> OF_NAIVE = List.of(NaiveSchool.class.getDeclaredMethods());
}
