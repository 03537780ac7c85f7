import java.lang.reflect.InvocationTargetException;
import java.lang.reflect.Method;
import java.util.ArrayList;
import java.util.Arrays;
import java.util.Comparator;
import java.util.List;

/**
 * What the tests of the promises share. A test is a static method whose name begins with its promise's number: it makes
 * objects of its own, and each of its answers that is not the one that is due is printed behind its name.
 */
abstract class Checks {
    static final int NONE = FlushProofs.NONE;
    static final int FALSE = 0;
    static final int TRUE = 1;
    static final int FETCH = 2;
    static final int LOWEST = Integer.MIN_VALUE;
    static final int HIGHEST = Integer.MAX_VALUE;

    static final int HOLDS = 1;
    static final int FAILS = 0;
    static final int TOO_LARGE = 2;

    static final Class<?> NO_INDEX = IndexOutOfBoundsException.class;
    static final Class<?> NO_ARGUMENT = IllegalArgumentException.class;
    static final Class<?> NO_ROOM = UnsupportedOperationException.class;
    static final Class<?> NO_STATE = IllegalStateException.class;

    private static final List<String> wrong = new ArrayList<>();

    interface Call {
        Object answer();
    }

    interface CallOf {
        Object answer(int number);
    }

    static void due(String what, Object got, Object want) {
        if (!want.equals(got)) {
            wrong.add(what + " answered " + got + ", due is " + want);
        }
    }

    /** The call throws this very exception, and changes nothing that can be counted. */
    static void refused(Probe x, String what, Class<?> want, Call call) {
        List<Integer> ahead = countsOf(x);
        Object got;
        try {
            got = call.answer();
        } catch (RuntimeException e) {
            got = e.getClass();
        }
        due(what, got, want);
        due("counts behind " + what, countsOf(x), ahead);
    }

    private static List<Integer> countsOf(Probe x) {
        return List.of(x.count(0), x.count(1), x.count(2), x.count(3));
    }

    /** Numbers on both sides of those that there are, which go from 0 to ahead of end. */
    static void refusedOutside(Probe x, String what, int end, CallOf call) {
        refusedEach(x, what, NO_INDEX, call, NONE, end, LOWEST, HIGHEST);
    }

    /** Where NONE is asked for something else, the numbers below it begin with -2. */
    static void refusedOutsideButNone(Probe x, String what, int end, CallOf call) {
        refusedEach(x, what, NO_INDEX, call, NONE - 1, end, LOWEST, HIGHEST);
    }

    static void refusedEach(Probe x, String what, Class<?> want, CallOf call, int... numbers) {
        for (int number : numbers) {
            refused(x, what + " with " + number, want, () -> call.answer(number));
        }
    }

    static void dueNode(Probe x, int node, int kind, int first, int second, int third) {
        due("node " + node + " with its parts",
            List.of(x.node(node, 0), x.node(node, 1), x.node(node, 2), x.node(node, 3)),
            List.of(kind, first, second, third));
    }

    /** All counts from the first one on. */
    static void dueCounts(Probe x, int... counts) {
        for (int what = 0; what < counts.length; what++) {
            due("count(" + what + ")", x.count(what), counts[what]);
        }
    }

    static void dueDeep(Probe x, int words, int truths) {
        due("deep words", x.count(4), words);
        due("deep truths", x.count(5), truths);
    }

    /** FETCH's number, then those of all elements. */
    static void dueState(Probe x, int fetch, int... values) {
        due("witness(NONE)", x.witness(NONE), fetch);
        for (int e = 0; e < values.length; e++) {
            due("witness(" + e + ")", x.witness(e), values[e]);
        }
    }

    static void dueNoState(Probe x) {
        refused(x, "witness(NONE) without a state", NO_STATE, () -> x.witness(NONE));
        refused(x, "witness(0) without a state", NO_STATE, () -> x.witness(0));
        refused(x, "differs() without a state", NO_STATE, x::differs);
    }

    /** One node of each kind that is a word: an element, applications, a choice. Makes seven nodes, two elements. */
    static int[] wordNodes(Probe x) {
        int a = x.word();
        int c = x.truth();
        int one = x.apply(6, a, NONE);
        int two = x.apply(6, a, one);
        return new int[] {a, one, two, x.choice(c, a, one)};
    }

    /** One node of each kind that is a truth. Makes seven nodes, two of them elements. */
    static int[] truthNodes(Probe x) {
        int t = x.truth();
        int a = x.word();
        int not = x.not(t);
        int equal = x.equal(a, x.apply(5, a, a));
        int both = x.both(t, FETCH);
        return new int[] {FALSE, TRUE, FETCH, t, equal, not, both, x.choice(t, equal, FALSE)};
    }

    /** A chain of applications behind a word, until there are so many nodes; the last one. */
    static int fill(Probe x, int word, int nodes) {
        int last = word;
        for (int left = nodes - x.count(0); left > 0; left--) {
            last = x.apply(7, last, NONE);
        }
        return last;
    }

    static int[] words(Probe x, int count) {
        int[] made = new int[count];
        for (int i = 0; i < count; i++) {
            made[i] = x.word();
        }
        return made;
    }

    static int[] truths(Probe x, int count) {
        int[] made = new int[count];
        for (int i = 0; i < count; i++) {
            made[i] = x.truth();
        }
        return made;
    }

    static int bothOfAll(Probe x, int... nodes) {
        int all = TRUE;
        for (int node : nodes) {
            all = x.both(all, node);
        }
        return all;
    }

    /** 1 where no two of the words are the same. */
    static int allDistinct(Probe x, int... words) {
        int all = TRUE;
        for (int i = 0; i < words.length; i++) {
            for (int j = 0; j < i; j++) {
                all = x.both(all, x.not(x.equal(words[i], words[j])));
            }
        }
        return all;
    }

    /** Plays every test of a class, and ends with 1 if an answer was not due or there was none to play. */
    static void playAll(Class<? extends Checks> tests) {
        Method[] methods = tests.getDeclaredMethods();
        Arrays.sort(methods, Comparator.comparing(Method::getName));
        int played = 0;
        int failed = 0;
        for (Method method : methods) {
            if (method.getName().startsWith("promise")) {
                played++;
                failed += play(method) ? 0 : 1;
            }
        }
        System.out.println(tests.getSimpleName() + ": " + played + " played, " + failed + " failed");
        if (failed > 0 || played == 0) {
            System.exit(1);
        }
    }

    private static boolean play(Method method) {
        wrong.clear();
        try {
            method.invoke(null);
        } catch (InvocationTargetException e) {
            wrong.add("broke off with " + e.getCause());
        } catch (IllegalAccessException e) {
            wrong.add("could not be played: " + e);
        }
        for (String line : wrong) {
            System.out.println(method.getName() + ": " + line);
        }
        return wrong.isEmpty();
    }
}
