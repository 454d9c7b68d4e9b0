import java.lang.reflect.InvocationTargetException;
import java.lang.reflect.Method;
import java.util.ArrayList;
import java.util.Arrays;
import java.util.Comparator;
import java.util.List;
import java.util.function.Supplier;
import java.util.function.ToLongFunction;

/** Runs the tests that are marked as edges, each by itself, and has what they share. */
final class Edges {
    private Edges() {
    }

    /** The tests of a class, by promise, then by name (the machine tells them in no order). */
    static List<Method> of(Class<?> tests) {
        List<Method> marked = new ArrayList<>();
        for (Method m : tests.getDeclaredMethods()) {
            if (m.isAnnotationPresent(Edge.class)) {
                marked.add(m);
            }
        }
        Comparator<Method> byPromise = Comparator.comparingInt(m -> m.getAnnotation(Edge.class).of());
        marked.sort(byPromise.thenComparing(Method::getName));
        return marked;
    }

    static void run(Class<?> tests) throws IllegalAccessException {
        List<Method> all = of(tests);
        for (Method test : all) {
            Edge edge = test.getAnnotation(Edge.class);
            Due.begin(test.getName() + " (promise " + edge.of() + ", " + Arrays.toString(edge.says()) + ")");
            test.setAccessible(true);
            try {
                test.invoke(null);
            } catch (InvocationTargetException e) {
                Due.holds("it threw " + e.getCause() + " at " + Arrays.toString(e.getCause().getStackTrace()), false);
            }
        }
        System.out.print(all.size() + " edges, ");
        Due.end();
    }

    /** A call of a new object made so answers this, and leaves it as another one that was made so. */
    static void refused(Supplier<RateTree> make, ToLongFunction<RateTree> call, long answer) {
        RateTree x = make.get();
        RateTree other = make.get();
        Due.due("the call", call.applyAsLong(x), answer);
        Due.due("fault() stays", x.fault(), other.fault());
        Due.same("all stays", Look.at(x), Look.at(other));
    }

    static void refused(ToLongFunction<RateTree> call, long answer) {
        refused(Made::rich, call, answer);
    }

    /** The same of a call that names faults: fault() tells this one behind it, or 0. */
    static void faulted(Supplier<RateTree> make, ToLongFunction<RateTree> call, long answer, int fault) {
        RateTree x = make.get();
        Due.holds("another fault is told ahead of it", x.fault() != fault);
        Due.due("the call", call.applyAsLong(x), answer);
        Due.due("fault()", x.fault(), fault);
        Due.same("all stays", Look.at(x), Look.at(make.get()));
    }

    static void faulted(ToLongFunction<RateTree> call, long answer, int fault) {
        faulted(fault == 2 ? Made::richWithIndexFault : Made::rich, call, answer, fault);
    }
}
