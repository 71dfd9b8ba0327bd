import java.lang.reflect.InvocationTargetException;
import java.lang.reflect.Method;
import java.util.ArrayList;
import java.util.Arrays;
import java.util.Comparator;
import java.util.List;

/**
 * What the tests of boundary cases share. Such a test is a static method without parameters, named for the promise or
 * the term whose sentence it looks at; all dues in it are by hand.
 */
final class Bounds {
    static final int SMALL = Integer.MIN_VALUE;
    static final int GREAT = Integer.MAX_VALUE;
    static final int ALL_HOURS = 0xffffff;
    private static final long LONG_REFUSED = 4000000000000000000L;

    private static final List<String> wrong = new ArrayList<>();

    private Bounds() {
    }

    interface Call {
        long on(WhichWayRound x);
    }

    interface Start {
        WhichWayRound made();
    }

    // ---- what is due

    static void due(String call, long got, long want) {
        if (got != want) {
            wrong.add(call + " answered " + got + ", due is " + want);
        }
    }

    static void refused(int why, Start start, Call... calls) {
        refusedWith(why, why, start, calls);
    }

    static void refusedLong(int why, Start start, Call... calls) {
        refusedWith(LONG_REFUSED - why, why, start, calls);
    }

    /**
     * Each call, made twice on an object of its own, answers so and is counted twice; beside that nothing that can be
     * seen is other than on a twin of that object, on which it was not made.
     */
    private static void refusedWith(long answer, int why, Start start, Call... calls) {
        for (int i = 0; i < calls.length; i++) {
            WhichWayRound x = start.made();
            WhichWayRound twin = start.made();
            due("refused call " + i, calls[i].on(x), answer);
            due("refused call " + i + ", again", calls[i].on(x), answer);
            for (int kind = 1; kind <= 6; kind++) {
                int more = kind == -why ? 2 : 0;
                due("count of -" + kind + " by call " + i, x.count(10 + kind), twin.count(10 + kind) + more);
            }
            same("refused call " + i, x, twin);
        }
    }

    /** Nothing that can be seen is other than on its twin, but the refusals; both are used up by that. */
    static void same(String call, WhichWayRound x, WhichWayRound twin) {
        List<Long> is = whole(x);
        List<Long> was = whole(twin);
        if (!is.equals(was)) {
            wrong.add(call + ": as " + was + " is due, " + is + " is seen");
        }
    }

    /** Some 250 calls. */
    private static List<Long> whole(WhichWayRound x) {
        List<Long> seen = new ArrayList<>();
        look(x, seen);
        seen.add((long) x.judge(0));
        for (int i = 0; i < 9; i++) {
            seen.add((long) x.back());
            lookAtChanges(x, seen);
        }
        seen.add((long) x.town());
        look(x, seen);
        seen.add((long) x.restore());
        look(x, seen);
        return seen;
    }

    private static void look(WhichWayRound x, List<Long> seen) {
        for (int what = 0; what <= 9; what++) {
            seen.add((long) x.count(what));
        }
        for (int s = 0; s < x.count(0); s++) {
            seen.add(x.streetOf(s, 0) * 100L + x.streetOf(s, 1) * 10L + x.streetOf(s, 2));
        }
        for (int w = 0; w < x.count(1); w++) {
            seen.add((long) x.wayOf(w, 0, 0));
        }
        for (int l = 0; l < x.count(2); l++) {
            seen.add(x.learnerOf(l, 0) * 1000L + x.learnerOf(l, 1));
        }
    }

    private static void lookAtChanges(WhichWayRound x, List<Long> seen) {
        for (int what = 3; what <= 5; what++) {
            seen.add((long) x.count(what));
        }
        for (int l = 0; l < 5 && l < x.count(2); l++) {
            seen.add((long) x.learnerOf(l, 1));
        }
    }

    // ---- objects to start from

    /** Streets told by three digits each (kind, figure, minutes), ways by bits, learners by skills. */
    static WhichWayRound with(String streets, String ways, String skills) {
        WhichWayRound x = new WhichWayRound();
        for (String s : words(streets)) {
            x.street(s.charAt(0) - '0', s.charAt(1) - '0', s.charAt(2) - '0');
        }
        for (String w : words(ways)) {
            x.way(Integer.parseInt(w));
        }
        for (String l : words(skills)) {
            x.learner(Integer.parseInt(l));
        }
        return x;
    }

    private static String[] words(String text) {
        return text.isEmpty() ? new String[0] : text.split(" ");
    }

    static WhichWayRound empty() {
        return new WhichWayRound();
    }

    /**
     * One street of each kind, four ways, three learners. Hard of the streets:
     * <pre>
     *            0 STREET  1 HILL  2 RING  3 SCHOOL  4 YARD  5 CROWN   ways:  7   56   21   63
     *   minutes     3         5       1        4        9       2             9   15   13   24
     *   at 8        4         4       4        8        3       3            12   14   11   26
     *   at 15       4         4       6        8        3       5            14   16   13   30
     *   at 16, 17   4         4       6        4        3       5            14   12   13   26
     *   else        4         4       4        4        3       3            12   10   11   22
     * </pre>
     */
    static WhichWayRound aTown() {
        return with("043 125 231 324 479 512", "7 56 21 63", "3 0 6");
    }

    /** aTown with an image, changes and a row that tells the faults of learner 0. */
    static WhichWayRound changed() {
        WhichWayRound x = aTown();
        x.knows(2, 5);
        x.image();
        x.knows(0, 1);
        x.sets(0, 16);
        x.sets(1, 12);
        x.tests(1, 0);
        row(x, 1, 0, 3, 1, 0, 2);
        return x;
    }

    /** The same with letters. */
    static WhichWayRound some() {
        WhichWayRound x = changed();
        feed(x, "d;h05;");
        return x;
    }

    /** No room for anything: 8 streets, 6 ways, 5 learners, 96 letters, 12 in the row, 8 changes and older ones. */
    static WhichWayRound full() {
        WhichWayRound x = with("043 125 231 324 479 512 021 062", "7 56 21 63 128 255", "3 0 6 9 1");
        x.knows(0, 1);
        x.knows(4, 7);
        x.image();
        x.sets(0, 15);
        x.sets(1, 30);
        x.tests(1, 0);
        x.tests(3, 5);
        x.day();
        x.sets(0, 16);
        x.knows(2, 0);
        row(x, 1, 1, 3, 1, 0, 2, 0, 3, 0, 99, 5, 7);
        feed(x, "d;".repeat(48));
        return x;
    }

    /** Six ways of one street each, on which one of skill 0 has 0, 1, 2, 3, 4, 5 faults at all hours. */
    static WhichWayRound sixWays() {
        return with("001 011 021 031 041 051", "1 2 4 8 16 32", "0");
    }

    static void row(WhichWayRound x, int... numbers) {
        x.clear();
        for (int v : numbers) {
            x.row(v);
        }
    }

    static void feed(WhichWayRound x, String text) {
        for (int i = 0; i < text.length(); i++) {
            x.feed(text.charAt(i));
        }
    }

    static int told(WhichWayRound x, String text) {
        feed(x, text);
        return x.town();
    }

    // ---- all tests of a class

    static boolean hold(Class<?> tests) {
        List<Method> methods = new ArrayList<>(Arrays.asList(tests.getDeclaredMethods()));
        methods.removeIf(m -> m.isSynthetic() || !m.getName().matches("(promise|term)[A-Z0-9]\\w*"));
        methods.sort(Comparator.comparing(Method::getName));
        int failed = 0;
        for (Method test : methods) {
            failed += holds(test) ? 0 : 1;
        }
        System.out.println(tests.getName() + ": " + methods.size() + " tests, " + failed + " failed");
        return failed == 0 && !methods.isEmpty();
    }

    private static boolean holds(Method test) {
        wrong.clear();
        try {
            test.invoke(null);
        } catch (InvocationTargetException thrown) {
            wrong.add("threw " + thrown.getCause());
        } catch (IllegalAccessException unseen) {
            wrong.add("cannot be called: " + unseen);
        }
        for (String each : wrong) {
            System.out.println(test.getName() + ": " + each);
        }
        return wrong.isEmpty();
    }
}
