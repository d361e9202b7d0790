import java.lang.reflect.InvocationTargetException;
import java.lang.reflect.Method;
import java.util.ArrayList;
import java.util.Comparator;
import java.util.List;

/**
 * Tests of single sentences of the document, at their boundaries: each method with a Sentence is one,
 * and has an object of its own. The constants are the document's, not the class's: so a wrong one shows.
 */
abstract class Edges {
    static final int NONE = -1, BAD = -3, NO = -4, FULL = -5, LARGE = -6, NOTHING = -11, INDEX = -13, SIZE = -14;
    static final int MIN = Integer.MIN_VALUE;
    static final int MAX = Integer.MAX_VALUE;
    static final int ALL_OF_11 = 39916800;

    static final int SPAN = 0, CUTS = 1, OPENS = 2, SUM = 3, ROUND = 4, CELLS = 5;

    /** The object that the test is about; it has no posts at first. */
    NarrowRows x = new NarrowRows();

    private final List<String> wrong = new ArrayList<>();
    private int asked;

    final void is(String call, long got, long want) {
        asked++;
        if (got != want) {
            wrong.add(call + " answered " + got + ", due is " + want);
        }
    }

    /** All of some numbers, in their order. */
    final void are(String what, int[] got, int... want) {
        is(what + ": how many", got.length, want.length);
        for (int i = 0; i < want.length && i < got.length; i++) {
            is(what + "[" + i + "]", got[i], want[i]);
        }
    }

    final void inHand(String what, int... posts) {
        is(what + ": how many are in hand", x.count(4), posts.length);
        for (int place = 0; place < posts.length; place++) {
            is(what + ": at(" + place + ")", x.at(place), posts[place]);
        }
    }

    final void posts(int many) {
        for (int i = 0; i < many; i++) {
            x.post();
        }
    }

    final void hold(int... posts) {
        Nets.hold(x, posts);
    }

    final void undo(int times) {
        for (int i = 0; i < times; i++) {
            x.undo();
        }
    }

    final void hunt(int... moves) {
        for (int move : moves) {
            x.hunt(move);
        }
    }

    final void lay(int... bags) {
        for (int bits : bags) {
            x.lay(bits);
        }
    }

    /** Numbers outside 0 .. count - 1: next to it, far off, and such as are 0 or 1 to a shift of bits. */
    static int[] outside(int count) {
        return new int[] {-1, -2, count, count + 1, 32, 33, 64, -31, -32, 1 << 16, MIN, MIN + 1, MAX - 1, MAX};
    }

    static List<Method> testsOf(Class<? extends Edges> tests) {
        List<Method> found = new ArrayList<>();
        for (Method method : tests.getDeclaredMethods()) {
            if (method.isAnnotationPresent(Sentence.class)) {
                found.add(method);
            }
        }
        found.sort(Comparator.comparing(Method::getName));
        return found;
    }

    /** Runs all tests of a class, tells those that fail, and ends with exit code 1 if there was one. */
    static void runAll(Class<? extends Edges> tests) throws ReflectiveOperationException {
        int failed = 0;
        List<Method> all = testsOf(tests);
        for (Method method : all) {
            List<String> wrong = run(tests, method);
            if (!wrong.isEmpty()) {
                failed++;
                Sentence sentence = method.getAnnotation(Sentence.class);
                System.out.println("FAILED " + tests.getName() + "." + method.getName() + ", which holds " + sentence.of()
                        + ", \"" + sentence.says() + "\":");
                wrong.forEach(line -> System.out.println("    " + line));
            }
        }
        System.out.println(tests.getName() + ": " + all.size() + " tests of sentences, " + failed + " failed");
        if (failed > 0 || all.isEmpty()) {
            System.exit(1);
        }
    }

    private static List<String> run(Class<? extends Edges> tests, Method method) throws ReflectiveOperationException {
        var maker = tests.getDeclaredConstructor();
        maker.setAccessible(true);
        method.setAccessible(true);
        Edges test = maker.newInstance();
        try {
            method.invoke(test);
        } catch (InvocationTargetException e) {
            test.wrong.add("it threw " + e.getCause());
        }
        if (test.asked == 0) {
            test.wrong.add("it asks nothing");
        }
        return test.wrong;
    }
}
